/-! what a PART is made of: D is THE SCORE as it was, A what stands now -/
def SV (nv nb : Nat) (D A : q_St) : Prop :=
  (nv ≤ 6 ∧ nb ≤ 40 ∧ A 128 0 = nI nv ∧ A 1 3 = nI nb ∧ A 128 1 = nI nb ∧ A 1 4 = D 128 11 ∧ A 128 11 = D 128 11) ∧
  (∀ q, 132 ≤ q → q ≤ 140 → A q = D q) ∧
  (∀ v b, v < nv → b < 40 → A (16 + 4 * v + 1 + 1) b = nI (cnt D v b)) ∧
  (∀ v b k w, v < nv → b < 40 → k < 8 → w < 4 → A (16 + 4 * v + 1 + 2) ((b * 8 + k) * 4 + w) = D (133 + w) (8 * (40 * v + b) + k)) ∧
  (∀ v b, v < 6 → b < 40 → cnt D v b ≤ 8 ∧ D 132 (40 * v + b) = nI (cnt D v b)) ∧
  (∀ v b, v < 6 → b < 40 → nv ≤ v ∨ nb ≤ b → cnt D v b = 0) ∧
  cNt D ∧
  (∀ b k, b < 40 → k < 5 → (D 137 (5 * b + k) = 0 ∧ A 4 (b * 5 + k) = -100) ∨ (D 137 (5 * b + k) = 1 ∧ A 4 (b * 5 + k) = D 138 (5 * b + k) ∧ -7 ≤ (D 138 (5 * b + k)).toInt ∧ (D 138 (5 * b + k)).toInt ≤ 999 ∧ (k = 0 → (D 138 (5 * b + k)).toInt ≤ 7))) ∧
  (∀ v, v < nv → A (16 + 4 * v) 0 = nI v ∧ A (16 + 4 * v) 2 = D 139 v ∧ A (16 + 4 * v) 3 = D 140 v) ∧
  (∀ v, v < 6 → -6 ≤ (D 139 v).toInt ∧ (D 139 v).toInt ≤ 6 ∧ -2 ≤ (D 140 v).toInt ∧ (D 140 v).toInt ≤ 2)
/-- whether players NEED a MARK of BAR b -/
def ndS (D : q_St) (b : Nat) : Bool := decide (¬ D 137 (5 * b) = 0 ∨ ¬ D 137 (5 * b + 1) = 0 ∨ ¬ D 137 (5 * b + 2) = 0 ∨ ¬ D 137 (5 * b + 3) = 0)
/-- KEY ahead of BAR b, all BARS before it read -/
def kyS (D : q_St) : Nat → Int32
  | 0 => 0
  | b + 1 => if D 137 (5 * b) = 0 then kyS D b else D 138 (5 * b)
def tnS (k f : Int32) : Int32 := if k + f ≤ 7 then (if -7 ≤ k + f then 0 else 12) else -12
def dnS (x : Int32) : Int32 := if x ≤ 19 then x else if x + -12 ≤ 19 then x + -12 else x + -12 + -12
def upS (x : Int32) : Int32 := if -15 ≤ x then x else if -15 ≤ x + 12 then x + 12 else x + 12 + 12
def ptS (p f o : Int32) : Int32 := if f8 (7 * f) ≤ 6 then p + f8 (7 * f) + 12 * o else p + (f8 (7 * f) - 12) + 12 * o
/-- how many unlike STARTS among the first n -/
def ulS (g : Nat → Int32) : Nat → Nat
  | 0 => 0
  | k + 1 => if k = 0 ∨ ¬ g k = g (k - 1) then ulS g k + 1 else ulS g k
theorem ulS_le (g : Nat → Int32) : ∀ n, ulS g n ≤ n := by
  intro n
  induction n with
  | zero => exact Nat.le_refl 0
  | succ n ih =>
    show (if n = 0 ∨ ¬ g n = g (n - 1) then ulS g n + 1 else ulS g n) ≤ n + 1
    split <;> omega
theorem ulS_congr {g h : Nat → Int32} : ∀ n, (∀ k, k < n → g k = h k) → ulS g n = ulS h n := by
  intro n
  induction n with
  | zero => intro _; rfl
  | succ n ih =>
    intro e
    show (if n = 0 ∨ ¬ g n = g (n - 1) then ulS g n + 1 else ulS g n) = (if n = 0 ∨ ¬ h n = h (n - 1) then ulS h n + 1 else ulS h n)
    rw [ih (fun k hk => e k (by omega)), e n (by omega), e (n - 1) (by omega)]
/-- how many BARS of VOICE v are empty, from BAR b - 1 backwards -/
def euS (D : q_St) (v : Nat) : Nat → Nat
  | 0 => 0
  | b + 1 => if cnt D v b = 0 then euS D v b + 1 else 0
theorem euS_le (D : q_St) (v : Nat) : ∀ b, euS D v b ≤ b := by
  intro b
  induction b with
  | zero => exact Nat.le_refl 0
  | succ b ih =>
    show (if cnt D v b = 0 then euS D v b + 1 else 0) ≤ b + 1
    split <;> omega
/-- the fullest of the first VOICES in BAR b -/
def fuS (D : q_St) (b : Nat) : Nat → Option Nat
  | 0 => none
  | v + 1 => match fuS D b v with
    | none => if cnt D v b = 0 then none else some v
    | some u => if cnt D v b ≤ cnt D u b then some u else some v
def moS (D : q_St) (b : Nat) : Option Nat → Nat
  | none => 0
  | some u => cnt D u b
theorem fuS_ok (D : q_St) (b : Nat) : ∀ v u, fuS D b v = some u → u < v ∧ 0 < cnt D u b := by
  intro v
  induction v with
  | zero => intro u h; exact absurd h (by simp [fuS])
  | succ v ih =>
    intro u h
    cases hf : fuS D b v with
    | none =>
      have e : fuS D b (v + 1) = if cnt D v b = 0 then none else some v := by show (match fuS D b v with | none => _ | some u => _) = _; rw [hf]
      rw [e] at h
      by_cases z : cnt D v b = 0
      · rw [if_pos z] at h; exact absurd h (by simp)
      · rw [if_neg z] at h; obtain rfl := Option.some.inj h; exact ⟨by omega, by omega⟩
    | some t =>
      have e : fuS D b (v + 1) = if cnt D v b ≤ cnt D t b then some t else some v := by show (match fuS D b v with | none => _ | some u => _) = _; rw [hf]
      obtain ⟨i1, i2⟩ := ih t hf
      rw [e] at h
      by_cases z : cnt D v b ≤ cnt D t b
      · rw [if_pos z] at h; obtain rfl := Option.some.inj h; exact ⟨by omega, i2⟩
      · rw [if_neg z] at h; obtain rfl := Option.some.inj h; exact ⟨by omega, by omega⟩
theorem fuS_step (D : q_St) (b v : Nat) : fuS D b (v + 1) = if cnt D v b ≤ moS D b (fuS D b v) then fuS D b v else some v := by
  cases hf : fuS D b v with
  | none =>
    have e : fuS D b (v + 1) = if cnt D v b = 0 then none else some v := by show (match fuS D b v with | none => _ | some u => _) = _; rw [hf]
    rw [e]
    show _ = if cnt D v b ≤ 0 then none else some v
    by_cases z : cnt D v b = 0
    · rw [if_pos z, if_pos (by omega)]
    · rw [if_neg z, if_neg (by omega)]
  | some t =>
    show (match fuS D b v with | none => _ | some u => _) = _
    rw [hf]
    rfl
theorem fuS_z {D : q_St} {b n : Nat} : ∀ m, (∀ v, n ≤ v → v < n + m → cnt D v b = 0) → fuS D b (n + m) = fuS D b n := by
  intro m
  induction m with
  | zero => intro _; rfl
  | succ m ih =>
    intro h
    rw [show n + (m + 1) = n + m + 1 by omega, fuS_step, h (n + m) (by omega) (by omega), if_pos (by omega)]
    exact ih (fun v h1 h2 => h v h1 (by omega))
/-- the VOICE that a CUE in BAR b is from -/
def cuS (nb : Nat) (D : q_St) (v b : Nat) : Option Nat := if cnt D v b = 0 ∧ b + 1 < nb ∧ ¬ cnt D v (b + 1) = 0 ∧ (D 128 11).toInt ≤ euS D v (b + 1) then fuS D b 6 else none
/-- where a REST ends that has come to BAR x -/
def reS (nb : Nat) (D : q_St) (v : Nat) : Nat → Nat → Nat
  | 0, x => x
  | f + 1, x => if x < nb ∧ cnt D v x = 0 ∧ ndS D x = false ∧ cuS nb D v x = none then reS nb D v f (x + 1) else x
theorem reS_le {nb : Nat} {D : q_St} {v : Nat} : ∀ f x, x ≤ reS nb D v f x ∧ (x ≤ nb → reS nb D v f x ≤ nb) := by
  intro f
  induction f with
  | zero => intro x; exact ⟨Nat.le_refl x, fun h => h⟩
  | succ f ih =>
    intro x
    show x ≤ (if x < nb ∧ cnt D v x = 0 ∧ ndS D x = false ∧ cuS nb D v x = none then reS nb D v f (x + 1) else x) ∧ (x ≤ nb → (if x < nb ∧ cnt D v x = 0 ∧ ndS D x = false ∧ cuS nb D v x = none then reS nb D v f (x + 1) else x) ≤ nb)
    by_cases h : x < nb ∧ cnt D v x = 0 ∧ ndS D x = false ∧ cuS nb D v x = none
    · rw [if_pos h]
      have := ih (x + 1)
      exact ⟨by omega, fun _ => this.2 (by omega)⟩
    · rw [if_neg h]
      exact ⟨Nat.le_refl x, fun h => h⟩
section CVIEW
variable {nv nb : Nat} {md : Nat → Bool} {Q : Int32 → q_St → Prop} {D A A' : q_St}
theorem sv_of (C : Corr nv md nb A) : SV nv nb A A := by
  obtain ⟨⟨d1, d2, d3, d4, d5, d6, d7⟩, ⟨t1, t2, t3, t4, t5⟩, n, m, ⟨v1, v2, v3⟩, -, -⟩ := C
  refine ⟨⟨d1, d2, d4, d5, d6, d7, rfl⟩, fun _ _ _ => rfl, fun v b hv hb => ?_, fun v b k w hv hb hk hw => ?_, t3, t4, n, fun b k hb hk => ?_, v1, v2⟩
  · rw [show 16 + 4 * v + 1 + 1 = 18 + 4 * v by omega, t1 v b hv hb]; exact (t3 v b (by omega) hb).2
  · rw [show 16 + 4 * v + 1 + 2 = 19 + 4 * v by omega]; exact t2 v b k w hv hb hk hw
  · rcases m b k hb hk with h | ⟨h1, h2, h3, h4, h5, h6⟩
    · exact Or.inl h
    · exact Or.inr ⟨h1, h2, h4, h5, h6⟩
theorem SV.keep (S : SV nv nb D A) (h : ∀ q m, q < 64 → A' q m = A q m) (h2 : ∀ q m, 132 ≤ q → q ≤ 140 → A' q m = A q m) (h3 : ∀ m, m ≤ 11 → A' 128 m = A 128 m) : SV nv nb D A' := by
  obtain ⟨⟨d1, d2, d3, d4, d5, d6, d7⟩, a, b, c, d, e, f, g, i, j⟩ := S
  refine ⟨⟨d1, d2, by rw [h3 _ (by omega)]; exact d3, by rw [h _ _ (by omega)]; exact d4, by rw [h3 _ (by omega)]; exact d5, by rw [h _ _ (by omega)]; exact d6, by rw [h3 _ (by omega)]; exact d7⟩, fun q h4 h5 => ?_, fun v x hv hx => ?_, fun v x k w hv hx hk hw => ?_, d, e, f, fun x k hx hk => ?_, fun v hv => ?_, j⟩
  · rw [← a q h4 h5]; exact funext fun m => h2 q m h4 h5
  · rw [h _ _ (by omega)]; exact b v x hv hx
  · rw [h _ _ (by omega)]; exact c v x k w hv hx hk hw
  · rw [h _ _ (by omega)]; exact g x k hx hk
  · rw [h _ _ (by omega), h _ _ (by omega), h _ _ (by omega)]; exact i v hv
theorem svT (S : SV nv nb D A) {v b : Nat} (hv : v < nv) (hb : b < 40) : TabS A (16 + 4 * v + 1) b (cnt D v b) (ng D v b) := by
  have h6 := S.1.1
  have h5 := S.2.2.2.2.1 v b (by omega) hb
  exact ⟨hb, S.2.2.1 v b hv hb, h5.1, fun k w hk hw => S.2.2.2.1 v b k w hv hb (by omega) hw⟩
theorem m_empty (S : SV nv nb D A) {v b : Nat} (hv : v < 6) (hb : b < 40) : aX8_isEmpty nv md (nI v) (nI b) Q A = Q (bI (decide (cnt D v b = 0))) A := by
  unfold aX8_isEmpty
  have h3 := S.2.2.2.2.1 v b hv hb
  simp only [e40, n_ma]
  rw [in_n (by omega) (by omega), cl_nI (by omega), zr_0, zr_1, S.2.1 132 (by omega) (by omega), h3.2]
  have e : (nI (cnt D v b) = 0) ↔ cnt D v b = 0 := by rw [e0, nI_eq (by omega) (by omega)]
  by_cases h : cnt D v b = 0
  · rw [brT' (e.mpr h), decide_eq_true h]; rfl
  · rw [brF' (fun q => h (e.mp q)), decide_eq_false h]; rfl
theorem m_tacetL (S : SV nv nb D A) {v : Nat} (hv : v < 6) : ∀ (n s : Nat), s ≤ nb → nb + 1 ≤ n + s → alX8_isTacet_b4 nv md Q n (nI v) (bI (emp D v s)) (nI s) A = Q (bI (emp D v nb)) A := by
  obtain ⟨d1, d2, d3, d4, d5, d6, d7⟩ := S.1
  intro n
  induction n with
  | zero => intro s h1 h2; exact absurd h2 (by omega)
  | succ n ih =>
    intro s h1 h2
    show aX8_isTacet_b4 nv md Q (alX8_isTacet_b4 nv md Q n) (nI v) (bI (emp D v s)) (nI s) A = _
    unfold aX8_isTacet_b4 aX8_isTacet_b29 aX8_isTacet_b30
    rw [d5, i_le, i_nI (by omega), i_nI (by omega), zr_b]
    by_cases h : (nb : Int) ≤ s
    · rw [brT h, show s = nb by omega]
    · rw [brF h, brD', m_empty S hv (by omega), brB']
      have e : emp D v (s + 1) = (emp D v s && decide (cnt D v s = 0)) := rfl
      have ih1 := ih (s + 1) (by omega) (by omega)
      rw [e] at ih1
      simp only [e1, nI_add]
      cases hm : emp D v s
      · rw [hm] at ih1
        rw [if_neg (by simp)]
        exact ih1
      · rw [hm] at ih1
        rw [if_pos rfl]
        by_cases hz : cnt D v s = 0
        · rw [if_pos hz]
          rw [decide_eq_true hz] at ih1
          exact ih1
        · rw [if_neg hz]
          rw [decide_eq_false hz] at ih1
          exact ih1
theorem m_tacet (S : SV nv nb D A) {v : Nat} (hv : v < 6) : aX8_isTacet nv md (nI v) Q A = Q (bI (emp D v nb)) A := by
  have h2 := S.1.2.1
  exact m_tacetL S hv _ 0 (by omega) (by unfold q_fuel; omega)
theorem s_tot0 (S : SV nv nb D A) {v : Nat} (hv : v < 6) : sm (cnt D v) 40 = 0 ↔ emp D v nb = true := by
  rw [sm_zero, emp_iff]
  have h2 := S.1.2.1
  constructor
  · intro h b hb; exact h b (by omega)
  · intro h b hb
    by_cases q : b < nb
    · exact h b q
    · exact S.2.2.2.2.2.1 v b hv hb (Or.inr (by omega))
theorem s_totle (S : SV nv nb D A) {v : Nat} (hv : v < 6) : sm (cnt D v) 40 ≤ 320 := sm_le (c := 8) (fun m hm => (S.2.2.2.2.1 v m hv hm).1)
theorem c_value {b k : Nat} (hb : b < 40) (hk : k < 5) : aX2_valueAt nv md (nI b) (nI k) Q A = Q (A 4 (b * 5 + k)) A := by
  unfold aX2_valueAt
  rw [a2_place, brB', if_pos (by rw [i_nI (by omega), i_nI (by omega)]; omega), e5, n_am, in_n (by omega) (by omega), cl_nI (by omega)]
theorem s_mk (S : SV nv nb D A) {b k : Nat} (hb : b < 40) (hk : k < 5) : (A 4 (b * 5 + k) = -100) = (D 137 (5 * b + k) = 0) := by
  rcases S.2.2.2.2.2.2.2.1 b k hb hk with ⟨h1, h2⟩ | ⟨h1, h2, h3, h4, -⟩
  · rw [h1, h2]; simp
  · rw [h1, h2, i_eq, i_eq, M_100, L_0, L_1, eq_iff_iff]; omega
theorem c_needK (S : SV nv nb D A) {b : Nat} (hb : b < 40) {f k : Nat} (hk : k < 4) : alX2_isNeeded_b2 nv md Q (f + 1) (nI b) (nI k) A = if D 137 (5 * b + k) = 0 then alX2_isNeeded_b2 nv md Q f (nI b) (nI (k + 1)) A else Q 1 A := by
  show aX2_isNeeded_b2 nv md Q (alX2_isNeeded_b2 nv md Q f) (nI b) (nI k) A = _
  unfold aX2_isNeeded_b2 aX2_isNeeded_b25
  rw [e5, le_n (by omega) (by omega), brF (by omega), e4, eq_n (by omega) (by omega), brF (by omega), c_value hb (by omega), s_mk S hb (by omega), zr_1, e1, nI_add, brI]
theorem c_need (S : SV nv nb D A) {b : Nat} (hb : b < 40) : aX2_isNeeded nv md (nI b) Q A = Q (bI (ndS D b)) A := by
  show alX2_isNeeded_b2 nv md Q (q_fuel - 6 + 6) (nI b) (nI 0) A = _
  rw [c_needK S hb (by omega), c_needK S hb (by omega), c_needK S hb (by omega), c_needK S hb (by omega)]
  have h4 : alX2_isNeeded_b2 nv md Q (q_fuel - 6 + 2) (nI b) (nI (0 + 1 + 1 + 1 + 1)) A = Q 0 A := by
    show aX2_isNeeded_b2 nv md Q (alX2_isNeeded_b2 nv md Q (q_fuel - 6 + 1)) (nI b) (nI 4) A = _
    unfold aX2_isNeeded_b2 aX2_isNeeded_b25
    rw [e5, le_n (by omega) (by omega), brF (by omega), e4, brT rfl]
    show aX2_isNeeded_b2 nv md Q (alX2_isNeeded_b2 nv md Q (q_fuel - 6)) (nI b) (nI 5) A = _
    unfold aX2_isNeeded_b2
    rw [e5, brT (Int32.le_refl _), zr_0]
  rw [h4]
  unfold ndS
  simp only [Nat.add_zero, Nat.zero_add]
  by_cases h0 : D 137 (5 * b) = 0
  · by_cases h1 : D 137 (5 * b + 1) = 0
    · by_cases h2 : D 137 (5 * b + 2) = 0
      · by_cases h3 : D 137 (5 * b + 3) = 0
        · simp [h0, h1, h2, h3, bI]
        · simp [h0, h1, h2, h3, bI]
      · simp [h0, h1, h2, bI]
    · simp [h0, h1, bI]
  · simp [h0, bI]
theorem m_need (S : SV nv nb D A) {b : Nat} (hb : b < 40) : aX8_isNeeded nv md (nI b) Q A = Q (bI (ndS D b)) A := by
  unfold aX8_isNeeded aX8_isNeeded_b50
  rw [S.2.1 137 (by omega) (by omega), zr_0, zr_1]
  simp only [e5, e1, pk_mul, show (2 : Int32) = nI 2 from rfl, show (3 : Int32) = nI 3 from rfl, nI_add]
  rw [in_n (by omega) (by omega), in_n (by omega) (by omega), in_n (by omega) (by omega), in_n (by omega) (by omega), cl_nI (by omega), cl_nI (by omega), cl_nI (by omega), cl_nI (by omega)]
  unfold ndS
  by_cases h0 : D 137 (5 * b) = 0
  · by_cases h1 : D 137 (5 * b + 1) = 0
    · by_cases h2 : D 137 (5 * b + 2) = 0
      · by_cases h3 : D 137 (5 * b + 3) = 0
        · simp [h0, h1, h2, h3, bI]
        · simp [h0, h1, h2, h3, bI]; rfl
      · simp [h0, h1, h2, bI]; rfl
    · simp [h0, h1, bI]; rfl
  · simp [h0, bI]; rfl
theorem c_keyL (S : SV nv nb D A) : ∀ (f b : Nat), b ≤ 40 → b < f → alX2_keyAt_b2 nv md Q f (nI b + -1) A = Q (kyS D b) A := by
  intro f
  induction f with
  | zero => intro b h1 h2; exact absurd h2 (by omega)
  | succ f ih =>
    intro b h1 h2
    show aX2_keyAt_b2 nv md Q (alX2_keyAt_b2 nv md Q f) (nI b + -1) A = _
    unfold aX2_keyAt_b2
    cases b with
    | zero =>
      rw [brT (show nI 0 + -1 < 0 by decide)]; rfl
    | succ b =>
      rw [show nI (b + 1) + -1 = nI b from pk_m1 b, i_lt, L_0, i_nI (by omega), brF (by omega), show (0 : Int32) = nI 0 from rfl, c_value (by omega) (by omega), s_mk S (by omega) (by omega), ih b (by omega) (by omega), brI]
      show _ = Q (if D 137 (5 * b) = 0 then kyS D b else D 138 (5 * b)) A
      rw [Nat.add_zero, Nat.add_zero]
      by_cases h : D 137 (5 * b) = 0
      · rw [if_pos h, if_pos h]
      · rw [if_neg h, if_neg h]
        rcases S.2.2.2.2.2.2.2.1 b 0 (by omega) (by omega) with ⟨q1, q2⟩ | ⟨q1, q2, -⟩
        · exact absurd q1 h
        · rw [Nat.add_zero, Nat.add_zero] at q2
          rw [q2]
theorem c_key (S : SV nv nb D A) {b : Nat} (hb : b < 40) : aX2_keyAt nv md (nI b) Q A = Q (kyS D (b + 1)) A := by
  unfold aX2_keyAt
  rw [← show nI (b + 1) + -1 = nI b from pk_m1 b]
  exact c_keyL S _ (b + 1) (by omega) (by unfold q_fuel; omega)
theorem m_keyL (S : SV nv nb D A) {n : Nat} (hn : n < 40) : ∀ (f b : Nat), b ≤ n + 1 → n + 1 < f + b → alX8_keyAt_b4 nv md Q f (nI n) (kyS D b) (nI b) A = Q (kyS D (n + 1)) A := by
  intro f
  induction f with
  | zero => intro b h1 h2; exact absurd h2 (by omega)
  | succ f ih =>
    intro b h1 h2
    show aX8_keyAt_b4 nv md Q (alX8_keyAt_b4 nv md Q f) (nI n) (kyS D b) (nI b) A = _
    unfold aX8_keyAt_b4 aX8_keyAt_b32
    rw [lt_n (by omega) (by omega)]
    by_cases h : n < b
    · rw [brT h, show b = n + 1 by omega]
    · have e : kyS D (b + 1) = if D 137 (5 * b) = 0 then kyS D b else D 138 (5 * b) := rfl
      have ih1 := ih (b + 1) (by omega) (by omega)
      rw [brF h, e5, pk_mul, in_n (by omega) (by omega), in_n (by omega) (by omega), cl_nI (by omega), S.2.1 137 (by omega) (by omega), S.2.1 138 (by omega) (by omega), e1, nI_add, brI, ← ih1, e]
      by_cases g : D 137 (5 * b) = 0
      · rw [if_pos g, if_pos g]
      · rw [if_neg g, if_neg g]
theorem m_key (S : SV nv nb D A) {b : Nat} (hb : b < 40) : aX8_keyAt nv md (nI b) Q A = Q (kyS D (b + 1)) A := by
  unfold aX8_keyAt
  exact m_keyL S hb _ 0 (by omega) (by unfold q_fuel; omega)
theorem kyS_in (S : SV nv nb D A) : ∀ b, b ≤ 40 → -7 ≤ (kyS D b).toInt ∧ (kyS D b).toInt ≤ 7 := by
  intro b
  induction b with
  | zero => intro _; have hc := L_0; show -7 ≤ (0 : Int32).toInt ∧ (0 : Int32).toInt ≤ 7; omega
  | succ b ih =>
    intro hb
    show -7 ≤ (if D 137 (5 * b) = 0 then kyS D b else D 138 (5 * b)).toInt ∧ (if D 137 (5 * b) = 0 then kyS D b else D 138 (5 * b)).toInt ≤ 7
    by_cases h : D 137 (5 * b) = 0
    · rw [if_pos h]; exact ih (by omega)
    · rw [if_neg h]
      rcases S.2.2.2.2.2.2.2.1 b 0 (by omega) (by omega) with ⟨q1, -⟩ | ⟨q1, q2, q3, q4, q5⟩
      · exact absurd q1 h
      · exact ⟨q3, q5 rfl⟩
theorem c_turn (S : SV nv nb D A) {v : Nat} (hv : v < nv) (k : Int32) : aX6_keyTurn nv md (16 + 4 * v) k Q A = Q (tnS k (D 139 v)) A := by
  unfold aX6_keyTurn tnS
  rw [(S.2.2.2.2.2.2.2.2.1 v hv).2.1]
  by_cases h : k + D 139 v ≤ 7
  · rw [brT h, if_pos h]
    by_cases g : -7 ≤ k + D 139 v
    · rw [brT g, if_pos g]
    · rw [brF g, if_neg g]
  · rw [brF h, if_neg h]
theorem m_turn (S : SV nv nb D A) {v b : Nat} (hv : v < 6) (hb : b < 40) : aX8_turnOf nv md (nI v) (nI b) Q A = Q (tnS (kyS D (b + 1)) (D 139 v)) A := by
  unfold aX8_turnOf tnS
  rw [m_key S hb, in_n (by omega) (by omega), cl_nI (by omega), S.2.1 139 (by omega) (by omega)]
  by_cases h : kyS D (b + 1) + D 139 v ≤ 7
  · rw [brT h, if_pos h]
    by_cases g : -7 ≤ kyS D (b + 1) + D 139 v
    · rw [brT g, if_pos g]
    · rw [brF g, if_neg g]
  · rw [brF h, if_neg h]
theorem c_keyFor (S : SV nv nb D A) {v : Nat} (hv : v < nv) (k : Int32) : aX6_keyFor nv md (16 + 4 * v) k Q A = Q (k + D 139 v + tnS k (D 139 v)) A := by
  unfold aX6_keyFor
  rw [c_turn S hv, (S.2.2.2.2.2.2.2.2.1 v hv).2.1]
theorem m_wkey (S : SV nv nb D A) {v b : Nat} (hv : v < 6) (hb : b < 40) : aX8_writtenKey nv md (nI v) (nI b) Q A = Q (kyS D (b + 1) + D 139 v + tnS (kyS D (b + 1)) (D 139 v)) A := by
  unfold aX8_writtenKey
  rw [m_key S hb, in_n (by omega) (by omega), m_turn S hv hb, cl_nI (by omega), S.2.1 139 (by omega) (by omega)]
theorem c_pitch (S : SV nv nb D A) {v : Nat} (hv : v < nv) (p : Int32) : aX6_pitchFor nv md (16 + 4 * v) p Q A = Q (ptS p (D 139 v) (D 140 v)) A := by
  have hn := S.1.1
  have hb := S.2.2.2.2.2.2.2.2.2 v (by omega)
  unfold aX6_pitchFor aX6_pitchFor_b28 ptS
  rw [aJ_fm, (S.2.2.2.2.2.2.2.2.1 v hv).2.1, (S.2.2.2.2.2.2.2.2.1 v hv).2.2, fJ8x (by omega) (by omega)]
  by_cases h : f8 (7 * D 139 v) ≤ 6
  · rw [brT h, if_pos h]
  · rw [brF h, if_neg h]
/-- the two loops, for class and model alike -/
theorem dn_loop {L : Nat → Int32 → Prop} {K : Int32 → Prop} (hL : ∀ f x, L (f + 1) x = ((x ≤ 19 → K x) ∧ (¬ x ≤ 19 → L f (x + -12)))) {x : Int32} (h1 : -40 ≤ x.toInt) (h2 : x.toInt ≤ 40) (f : Nat) : L (f + 3) x = K (dnS x) := by
  have s1 : (x + -12).toInt = x.toInt - 12 := by have hc := M_12; rw [i_add (by omega) (by omega)]; omega
  have s2 : (x + -12 + -12).toInt = x.toInt - 24 := by have hc := M_12; rw [i_add (by omega) (by omega)]; omega
  unfold dnS
  rw [hL]
  by_cases a : x ≤ 19
  · rw [brT a, if_pos a]
  · rw [brF a, if_neg a, hL]
    by_cases b : x + -12 ≤ 19
    · rw [brT b, if_pos b]
    · rw [brF b, if_neg b, hL, brT]
      rw [i_le, s2, L_19]; omega
theorem up_loop {L : Nat → Int32 → Prop} {K : Int32 → Prop} (hL : ∀ f x, L (f + 1) x = ((-15 ≤ x → K x) ∧ (¬ -15 ≤ x → L f (x + 12)))) {x : Int32} (h1 : -39 ≤ x.toInt) (h2 : x.toInt ≤ 40) (f : Nat) : L (f + 3) x = K (upS x) := by
  have s1 : (x + 12).toInt = x.toInt + 12 := by have hc := L_12; rw [i_add (by omega) (by omega)]; omega
  have s2 : (x + 12 + 12).toInt = x.toInt + 24 := by have hc := L_12; rw [i_add (by omega) (by omega)]; omega
  unfold upS
  rw [hL]
  by_cases a : -15 ≤ x
  · rw [brT a, if_pos a]
  · rw [brF a, if_neg a, hL]
    by_cases b : -15 ≤ x + 12
    · rw [brT b, if_pos b]
    · rw [brF b, if_neg b, hL, brT]
      rw [i_le, s2, M_15]; omega
theorem dn_in {x : Int32} (h1 : -39 ≤ x.toInt) (h2 : x.toInt ≤ 40) : -39 ≤ (dnS x).toInt ∧ (dnS x).toInt ≤ 40 := by
  have s1 : (x + -12).toInt = x.toInt - 12 := by have hc := M_12; rw [i_add (by omega) (by omega)]; omega
  have s2 : (x + -12 + -12).toInt = x.toInt - 24 := by have hc := M_12; rw [i_add (by omega) (by omega)]; omega
  unfold dnS
  simp only [i_le, s1, L_19]
  split
  · omega
  · split
    · omega
    · omega
def spS (x : Int32) : Int32 := upS (dnS x)
theorem c_spell (S : SV nv nb D A) {v : Nat} (hv : v < nv) {s k : Int32} (h1 : -39 ≤ (s + D 139 v + tnS k (D 139 v)).toInt) (h2 : (s + D 139 v + tnS k (D 139 v)).toInt ≤ 40) : aX6_spellingFor nv md (16 + 4 * v) s k Q A = Q (spS (s + D 139 v + tnS k (D 139 v))) A := by
  unfold aX6_spellingFor spS
  rw [c_turn S hv, (S.2.2.2.2.2.2.2.2.1 v hv).2.1]
  have e := dn_loop (L := fun f x => alX6_spellingFor_b13 nv md Q f x A) (K := fun x => alX6_spellingFor_b25 nv md Q q_fuel x A) (fun f x => rfl) (by omega) h2 (q_fuel - 3)
  have d := dn_in h1 h2
  have e2 := up_loop (L := fun f x => alX6_spellingFor_b25 nv md Q f x A) (K := fun x => Q x A) (fun f x => rfl) d.1 d.2 (q_fuel - 3)
  exact e.trans e2
theorem tn_sum (S : SV nv nb D A) {v b : Nat} (hv : v < 6) (hb : b < 40) {s : Int32} (h1 : -15 ≤ s.toInt) (h2 : s.toInt ≤ 19) : -39 ≤ (s + D 139 v + tnS (kyS D (b + 1)) (D 139 v)).toInt ∧ (s + D 139 v + tnS (kyS D (b + 1)) (D 139 v)).toInt ≤ 40 := by
  have hb := S.2.2.2.2.2.2.2.2.2 v hv
  have e1 : (s + D 139 v).toInt = s.toInt + (D 139 v).toInt := i_add (by omega) (by omega)
  have ht : (tnS (kyS D (b + 1)) (D 139 v)).toInt = 0 ∨ (tnS (kyS D (b + 1)) (D 139 v)).toInt = 12 ∨ (tnS (kyS D (b + 1)) (D 139 v)).toInt = -12 := by
    unfold tnS
    split
    · split
      · exact Or.inl rfl
      · exact Or.inr (Or.inl rfl)
    · exact Or.inr (Or.inr rfl)
  rw [i_add (by omega) (by omega), e1]
  omega
theorem c_ulL {i b n : Nat} {g : Nat → Nat → Int32} (T : TabS A i b n g) : ∀ (f k : Nat), k ≤ n → n < f + k → alX3_unlikeStarts_b4 nv md Q f i (nI b) (nI (ulS (fun q => g q 0) k)) (nI k) A = Q (nI (ulS (fun q => g q 0) n)) A := by
  have hn := T.2.2.1
  intro f
  induction f with
  | zero => intro k h1 h2; exact absurd h2 (by omega)
  | succ f ih =>
    intro k h1 h2
    show aX3_unlikeStarts_b4 nv md Q (alX3_unlikeStarts_b4 nv md Q f) i (nI b) (nI (ulS (fun q => g q 0) k)) (nI k) A = _
    unfold aX3_unlikeStarts_b4 aX3_unlikeStarts_b36 aX3_unlikeStarts_b39
    rw [a3_sizeT T, le_n (by omega) (by omega)]
    by_cases h : n ≤ k
    · rw [brT h, show k = n by omega]
    · have ih1 := ih (k + 1) (by omega) (by omega)
      have e : ulS (fun q => g q 0) (k + 1) = if k = 0 ∨ ¬ g k 0 = g (k - 1) 0 then ulS (fun q => g q 0) k + 1 else ulS (fun q => g q 0) k := rfl
      rw [brF h, ← ih1, e]
      by_cases z : k = 0
      · subst z
        rw [brT (show nI 0 = 0 from rfl), if_pos (Or.inl rfl), e1, nI_add, nI_add]
      · have ek : nI k - 1 = nI (k - 1) := by
          have := nI_pred (k - 1)
          rw [show k - 1 + 1 = k by omega] at this
          exact this
        have nz : ¬ nI k = 0 := by rw [e0, nI_eq (by omega) (by omega)]; exact z
        rw [brF nz, a3_figT0 T (by omega), ek, a3_figT0 T (by omega)]
        by_cases y : g k 0 = g (k - 1) 0
        · rw [brT y, if_neg (by rintro (q | q); exact z q; exact q y), e1, nI_add]
        · rw [brF y, if_pos (Or.inr y), e1, nI_add, nI_add]
theorem c_ul {i b n : Nat} {g : Nat → Nat → Int32} (T : TabS A i b n g) : aX3_unlikeStarts nv md i (nI b) Q A = Q (nI (ulS (fun q => g q 0) n)) A := by
  have hn := T.2.2.1
  exact c_ulL T _ 0 (by omega) (by unfold q_fuel; omega)
theorem m_ulL {x n : Nat} (hx : x < 240) (h8 : n ≤ 8) (hs : A 132 x = nI n) : ∀ (f k : Nat), k ≤ n → n < f + k → alX8_unlikeStarts_b13 nv md Q f (nI x) (nI (ulS (fun q => A 133 (8 * x + q)) k)) (nI k) A = Q (nI (ulS (fun q => A 133 (8 * x + q)) n)) A := by
  intro f
  induction f with
  | zero => intro k h1 h2; exact absurd h2 (by omega)
  | succ f ih =>
    intro k h1 h2
    show aX8_unlikeStarts_b13 nv md Q (alX8_unlikeStarts_b13 nv md Q f) (nI x) (nI (ulS (fun q => A 133 (8 * x + q)) k)) (nI k) A = _
    unfold aX8_unlikeStarts_b13 aX8_unlikeStarts_b60 aX8_unlikeStarts_b65
    rw [in_n (by omega) (by omega), cl_nI (by omega), hs, le_n (by omega) (by omega)]
    by_cases h : n ≤ k
    · rw [brT h, show k = n by omega]
    · have ih1 := ih (k + 1) (by omega) (by omega)
      have e : ulS (fun q => A 133 (8 * x + q)) (k + 1) = if k = 0 ∨ ¬ A 133 (8 * x + k) = A 133 (8 * x + (k - 1)) then ulS (fun q => A 133 (8 * x + q)) k + 1 else ulS (fun q => A 133 (8 * x + q)) k := rfl
      rw [brF h, ← ih1, e]
      by_cases z : k = 0
      · subst z
        rw [brT (show nI 0 = 0 from rfl), if_pos (Or.inl rfl), e1, nI_add, nI_add]
      · have nz : ¬ nI k = 0 := by rw [e0, nI_eq (by omega) (by omega)]; exact z
        have ek : nI (8 * x + k) - nI 1 = nI (8 * x + (k - 1)) := by rw [pk_sub (by omega)]; congr 1; omega
        rw [brF nz, e8, n_ma, e1, ek, in_n (by omega) (by omega), in_n (by omega) (by omega), cl_nI (by omega), cl_nI (by omega), e0, nI_add, nI_add, nI_add, Nat.add_zero]
        by_cases y : A 133 (8 * x + k) = A 133 (8 * x + (k - 1))
        · rw [brT y, if_neg (by rintro (q | q); exact z q; exact q y)]
        · rw [brF y, if_pos (Or.inr y)]
theorem m_ul (S : SV nv nb D A) {v b : Nat} (hv : v < 6) (hb : b < 40) : aX8_unlikeStarts nv md (nI v) (nI b) Q A = Q (nI (ulS (fun q => ng D v b q 0) (cnt D v b))) A := by
  have h5 := S.2.2.2.2.1 v b hv hb
  unfold aX8_unlikeStarts
  rw [e40, n_ma]
  have e := m_ulL (nv := nv) (md := md) (Q := Q) (A := A) (x := 40 * v + b) (n := cnt D v b) (by omega) h5.1 (by rw [S.2.1 132 (by omega) (by omega)]; exact h5.2) q_fuel 0 (by omega) (by unfold q_fuel; omega)
  rw [S.2.1 133 (by omega) (by omega)] at e
  exact e
end CVIEW
