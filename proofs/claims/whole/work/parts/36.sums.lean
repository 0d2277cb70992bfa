def sm (f : Nat → Nat) : Nat → Nat
  | 0 => 0
  | n + 1 => sm f n + f n
theorem sm_congr {f g : Nat → Nat} : ∀ {n : Nat}, (∀ m, m < n → f m = g m) → sm f n = sm g n := by
  intro n
  induction n with
  | zero => intro _; rfl
  | succ n ih =>
    intro h
    show sm f n + f n = sm g n + g n
    rw [ih (fun m hm => h m (by omega)), h n (by omega)]
theorem sm_add (f : Nat → Nat) (m : Nat) : ∀ n, sm f (m + n) = sm f m + sm (fun b => f (m + b)) n := by
  intro n
  induction n with
  | zero => rfl
  | succ n ih =>
    show sm f (m + n) + f (m + n) = sm f m + (sm (fun b => f (m + b)) n + f (m + n))
    rw [ih]; omega
theorem sm_split (f : Nat → Nat) (c : Nat) : ∀ n, sm f (c * n) = sm (fun u => sm (fun b => f (c * u + b)) c) n := by
  intro n
  induction n with
  | zero => rfl
  | succ n ih =>
    rw [Nat.mul_succ, sm_add, ih]; rfl
theorem sm_le {f : Nat → Nat} {c : Nat} : ∀ {n : Nat}, (∀ m, m < n → f m ≤ c) → sm f n ≤ c * n := by
  intro n
  induction n with
  | zero => intro _; exact Nat.zero_le _
  | succ n ih =>
    intro h
    have := ih (fun m hm => h m (by omega))
    have := h n (by omega)
    show sm f n + f n ≤ c * (n + 1)
    rw [Nat.mul_succ]; omega
def emp (A : q_St) (v : Nat) : Nat → Bool
  | 0 => true
  | n + 1 => emp A v n && decide (cnt A v n = 0)
theorem emp_iff {A : q_St} {v : Nat} : ∀ {n : Nat}, emp A v n = true ↔ ∀ b, b < n → cnt A v b = 0 := by
  intro n
  induction n with
  | zero => simp [emp]
  | succ n ih =>
    simp only [emp, Bool.and_eq_true, decide_eq_true_eq, ih]
    constructor
    · intro h b hb
      rcases Nat.lt_succ_iff_lt_or_eq.mp hb with q | q
      · exact h.1 b q
      · rw [q]; exact h.2
    · intro h
      exact ⟨fun b hb => h b (by omega), h n (by omega)⟩
theorem sm_zero {f : Nat → Nat} : ∀ {n : Nat}, sm f n = 0 ↔ ∀ b, b < n → f b = 0 := by
  intro n
  induction n with
  | zero => simp [sm]
  | succ n ih =>
    show sm f n + f n = 0 ↔ _
    constructor
    · intro h b hb
      rcases Nat.lt_succ_iff_lt_or_eq.mp hb with q | q
      · exact ih.mp (by omega) b q
      · rw [q]; omega
    · intro h
      rw [ih.mpr (fun b hb => h b (by omega)), h n (by omega)]
theorem brD {c : Bool} {X Y : Prop} : ((¬ bI c = 0 → X) ∧ (bI c = 0 → Y)) = (if c = true then X else Y) := by cases c <;> simp [bI]
theorem brD' {c : Bool} {X Y : Prop} : ((bI c = 0 → X) ∧ (¬ bI c = 0 → Y)) = (if c = true then Y else X) := by cases c <;> simp [bI]
section CSUM
variable {nv nb : Nat} {md : Nat → Bool} {Q : Int32 → q_St → Prop} {A : q_St}
theorem a3_totalL {i : Nat} {c : Nat → Nat} (hc : ∀ b, b < 40 → A (i + 1) b = nI (c b)) : ∀ (n s : Nat), s ≤ 40 → 41 ≤ n + s → alX3_total_b4 nv md Q n i (nI (sm c s)) (nI s) A = Q (nI (sm c 40)) A := by
  intro n
  induction n with
  | zero => intro s h1 h2; exact absurd h2 (by omega)
  | succ n ih =>
    intro s h1 h2
    show aX3_total_b4 nv md Q (alX3_total_b4 nv md Q n) i (nI (sm c s)) (nI s) A = _
    unfold aX3_total_b4
    rw [i_le, L_40, i_nI (by omega)]
    by_cases h : (40 : Int) ≤ s
    · rw [brT h, show s = 40 by omega]
    · rw [brF h, in_n (by omega) (by omega), cl_nI (by omega), hc s (by omega), nI_add, e1, nI_add]
      exact ih (s + 1) (by omega) (by omega)
theorem a3_total {i : Nat} {c : Nat → Nat} (hc : ∀ b, b < 40 → A (i + 1) b = nI (c b)) : aX3_total nv md i Q A = Q (nI (sm c 40)) A := a3_totalL hc _ 0 (by omega) (by unfold q_fuel; omega)
theorem vtab (C : Corr nv md nb A) {v : Nat} (hv : v < nv) : ∀ b, b < 40 → A (16 + 4 * v + 1 + 1) b = nI (cnt A v b) := by
  intro b hb
  have hn := C.1.1
  rw [show 16 + 4 * v + 1 + 1 = 18 + 4 * v by omega, C.2.1.1 v b hv hb]
  exact (C.2.1.2.2.1 v b (by omega) hb).2
theorem a8_isEmpty (C : Corr nv md nb A) {v b : Nat} (hv : v < 6) (hb : b < 40) : aX8_isEmpty nv md (nI v) (nI b) Q A = Q (bI (decide (cnt A v b = 0))) A := by
  unfold aX8_isEmpty
  have h3 := C.2.1.2.2.1 v b hv hb
  simp only [e40, n_ma]
  rw [in_n (by omega) (by omega), cl_nI (by omega), zr_0, zr_1, h3.2]
  have e : (nI (cnt A v b) = 0) ↔ cnt A v b = 0 := by rw [e0, nI_eq (by omega) (by omega)]
  by_cases h : cnt A v b = 0
  · rw [brT' (e.mpr h), decide_eq_true h]; rfl
  · rw [brF' (fun q => h (e.mp q)), decide_eq_false h]; rfl
theorem a8_isTacetL (C : Corr nv md nb A) {v : Nat} (hv : v < 6) : ∀ (n s : Nat), s ≤ nb → nb + 1 ≤ n + s → alX8_isTacet_b4 nv md Q n (nI v) (bI (emp A v s)) (nI s) A = Q (bI (emp A v nb)) A := by
  obtain ⟨d1, d2, d3, d4, d5, d6, d7⟩ := C.1
  intro n
  induction n with
  | zero => intro s h1 h2; exact absurd h2 (by omega)
  | succ n ih =>
    intro s h1 h2
    show aX8_isTacet_b4 nv md Q (alX8_isTacet_b4 nv md Q n) (nI v) (bI (emp A v s)) (nI s) A = _
    unfold aX8_isTacet_b4 aX8_isTacet_b29 aX8_isTacet_b30
    rw [d6, i_le, i_nI (by omega), i_nI (by omega), zr_b]
    by_cases h : (nb : Int) ≤ s
    · rw [brT h, show s = nb by omega]
    · rw [brF h, brD', a8_isEmpty C hv (by omega), brB']
      have e : emp A v (s + 1) = (emp A v s && decide (cnt A v s = 0)) := rfl
      have ih1 := ih (s + 1) (by omega) (by omega)
      rw [e] at ih1
      simp only [e1, nI_add]
      cases hm : emp A v s
      · rw [hm] at ih1
        rw [if_neg (by simp)]
        exact ih1
      · rw [hm] at ih1
        rw [if_pos rfl]
        by_cases hz : cnt A v s = 0
        · rw [if_pos hz]
          rw [decide_eq_true hz] at ih1
          exact ih1
        · rw [if_neg hz]
          rw [decide_eq_false hz] at ih1
          exact ih1
theorem a8_isTacet (C : Corr nv md nb A) {v : Nat} (hv : v < 6) : aX8_isTacet nv md (nI v) Q A = Q (bI (emp A v nb)) A := by
  have h2 := C.1.2.1
  exact a8_isTacetL C hv _ 0 (by omega) (by unfold q_fuel; omega)
theorem tot0 (C : Corr nv md nb A) {v : Nat} (hv : v < 6) : sm (cnt A v) 40 = 0 ↔ emp A v nb = true := by
  rw [sm_zero, emp_iff]
  have h2 := C.1.2.1
  constructor
  · intro h b hb; exact h b (by omega)
  · intro h b hb
    by_cases q : b < nb
    · exact h b q
    · exact C.2.1.2.2.2.1 v b hv hb (Or.inr (by omega))
theorem totle (C : Corr nv md nb A) {v : Nat} (hv : v < 6) : sm (cnt A v) 40 ≤ 320 := sm_le (c := 8) (fun m hm => (C.2.1.2.2.1 v m hv hm).1)
theorem op_tacet (C : Corr nv md nb A) (x : Int32) : aX7_tacet nv md x (fun r A1 => aX8_tacet nv md x (fun r2 A2 => r = r2 ∧ Corr nv md nb A2) A1) A := by
  obtain ⟨d1, d2, d3, d4, d5, d6, d7⟩ := C.1
  unfold aX7_tacet aX5_voiceAt
  simp only [brO]
  by_cases h1 : 0 ≤ x.toInt ∧ x.toInt < nv
  · rw [if_pos h1]
    obtain ⟨v, hv, rfl⟩ := i_of h1.1 h1.2 (by omega)
    rw [cl_nI (by omega), a3_total (vtab C hv)]
    have hx : ∀ r : Int32, aX8_tacet nv md (nI v) (fun r2 A2 => r = r2 ∧ Corr nv md nb A2) A = (r = bI (emp A v nb) ∧ Corr nv md nb A) := by
      intro r
      unfold aX8_tacet
      rw [a8_isVoice d4 d1, brB', if_pos h1, a8_isTacet C (by omega), brD']
      cases emp A v nb <;> simp [bI]
    have e : (nI (sm (cnt A v) 40) = 0) ↔ emp A v nb = true := by
      rw [e0, nI_eq (by have := totle C (v := v) (by omega); omega) (by omega)]
      exact tot0 C (by omega)
    rw [hx, hx]
    by_cases q : emp A v nb = true
    · rw [brT' (e.mpr q), q]; exact ⟨rfl, C⟩
    · rw [brF' (fun z => q (e.mp z))]
      rw [Bool.not_eq_true] at q
      rw [q]; exact ⟨rfl, C⟩
  · rw [if_neg h1]
    unfold aX8_tacet
    rw [a8_isVoice d4 d1, brB', if_neg h1]
    exact ⟨rfl, C⟩
theorem a5_noteTotalL (C : Corr nv md nb A) : ∀ (n v : Nat), v ≤ 6 → 7 ≤ n + v → alX5_noteTotal_b4 nv md Q n (nI (sm (fun u => sm (cnt A u) 40) v)) (nI v) A = Q (nI (sm (fun u => sm (cnt A u) 40) 6)) A := by
  obtain ⟨d1, d2, d3, d4, d5, d6, d7⟩ := C.1
  intro n
  induction n with
  | zero => intro s h1 h2; exact absurd h2 (by omega)
  | succ n ih =>
    intro v h1 h2
    show aX5_noteTotal_b4 nv md Q (alX5_noteTotal_b4 nv md Q n) (nI _) (nI v) A = _
    unfold aX5_noteTotal_b4 aX5_voiceAt aX5_noteTotal_b30
    rw [i_le, L_6, i_nI (by omega)]
    simp only [brO]
    by_cases h : (6 : Int) ≤ v
    · rw [brT h, show v = 6 by omega]
    · rw [brF h]
      have ih1 := ih (v + 1) (by omega) (by omega)
      simp only [e1, nI_add]
      by_cases g : (0 : Int) ≤ v ∧ (v : Int) < nv
      · rw [if_pos g, cl_nI (by omega), a3_total (vtab C (by omega)), nI_add]
        exact ih1
      · rw [if_neg g]
        have hz : sm (cnt A v) 40 = 0 := sm_zero.mpr (fun b hb => C.2.1.2.2.2.1 v b (by omega) hb (Or.inl (by omega)))
        have e : sm (fun u => sm (cnt A u) 40) (v + 1) = sm (fun u => sm (cnt A u) 40) v := by
          show _ + sm (cnt A v) 40 = _
          rw [hz]; rfl
        rw [e] at ih1
        exact ih1
theorem a8_count2L (C : Corr nv md nb A) : ∀ (n s : Nat), s ≤ 240 → 241 ≤ n + s → alX8_count_b52 nv md Q n (nI (sm (fun x => (A 132 x).toNatClampNeg) s)) (nI s) A = Q (nI (sm (fun x => (A 132 x).toNatClampNeg) 240)) A := by
  intro n
  induction n with
  | zero => intro s h1 h2; exact absurd h2 (by omega)
  | succ n ih =>
    intro s h1 h2
    show aX8_count_b52 nv md Q (alX8_count_b52 nv md Q n) (nI _) (nI s) A = _
    unfold aX8_count_b52
    rw [i_le, L_240, i_nI (by omega)]
    by_cases h : (240 : Int) ≤ s
    · rw [brT h, show s = 240 by omega]
    · rw [brF h, in_n (by omega) (by omega), cl_nI (by omega)]
      have h3 := C.2.1.2.2.1 (s / 40) (s % 40) (by omega) (by omega)
      have es : 40 * (s / 40) + s % 40 = s := by omega
      unfold cnt at h3
      rw [es] at h3
      rw [h3.2, nI_add, e1, nI_add]
      exact ih (s + 1) (by omega) (by omega)
theorem a5_partOf (x : Int32) {Q : Option Nat → q_St → Prop} : aX5_partOf nv md x Q A = Q (if 0 ≤ x.toInt ∧ x.toInt < nv then pq md x.toNatClampNeg else none) A := by
  unfold aX5_partOf aX5_voiceAt
  simp only [brO]
  by_cases h : 0 ≤ x.toInt ∧ x.toInt < nv
  · rw [if_pos h, if_pos h, show (16 + 4 * x.toNatClampNeg - 16) / 4 = x.toNatClampNeg by omega]
  · rw [if_neg h, if_neg h]
theorem a5_partTotalL (hm : ∀ v, md v = true → v < nv) (hn : nv ≤ 6) : ∀ (n v : Nat), v ≤ 6 → 7 ≤ n + v → alX5_partTotal_b4 nv md Q n (nI (sm (fun u => if md u = true then 1 else 0) v)) (nI v) A = Q (nI (sm (fun u => if md u = true then 1 else 0) 6)) A := by
  intro n
  induction n with
  | zero => intro s h1 h2; exact absurd h2 (by omega)
  | succ n ih =>
    intro v h1 h2
    show aX5_partTotal_b4 nv md Q (alX5_partTotal_b4 nv md Q n) (nI _) (nI v) A = _
    unfold aX5_partTotal_b4 aX5_partTotal_b21
    rw [i_le, L_6, i_nI (by omega), a5_partOf, cl_nI (by omega), i_nI (by omega)]
    by_cases h : (6 : Int) ≤ v
    · rw [brT h, show v = 6 by omega]
    · rw [brF h]
      have ih1 := ih (v + 1) (by omega) (by omega)
      simp only [e1, nI_add]
      have e : (if (0 : Int) ≤ v ∧ (v : Int) < nv then pq md v else none) = if md v = true then some (64 + 5 * v) else none := by
        by_cases q : md v = true
        · have := hm v q
          rw [if_pos (by omega), pq, q]
        · by_cases g : (0 : Int) ≤ v ∧ (v : Int) < nv
          · rw [if_pos g, pq]
          · rw [if_neg g, if_neg q]
      rw [e, brO]
      have es : sm (fun u => if md u = true then 1 else 0) (v + 1) = sm (fun u => if md u = true then 1 else 0) v + (if md v = true then 1 else 0) := rfl
      rw [es] at ih1
      by_cases q : md v = true
      · rw [if_pos q]; rw [if_pos q] at ih1; exact ih1
      · rw [if_neg q]; rw [if_neg q] at ih1; exact ih1
theorem a8_count3L (C : Corr nv md nb A) : ∀ (n v : Nat), v ≤ 6 → 7 ≤ n + v → alX8_count_b78 nv md Q n (nI (sm (fun u => if md u = true then 1 else 0) v)) (nI v) A = Q (nI (sm (fun u => if md u = true then 1 else 0) 6)) A := by
  intro n
  induction n with
  | zero => intro s h1 h2; exact absurd h2 (by omega)
  | succ n ih =>
    intro v h1 h2
    show aX8_count_b78 nv md Q (alX8_count_b78 nv md Q n) (nI _) (nI v) A = _
    unfold aX8_count_b78 aX8_count_b99
    rw [i_le, L_6, i_nI (by omega)]
    by_cases h : (6 : Int) ≤ v
    · rw [brT h, show v = 6 by omega]
    · rw [brF h, in_n (by omega) (by omega), cl_nI (by omega)]
      have ih1 := ih (v + 1) (by omega) (by omega)
      have es : sm (fun u => if md u = true then 1 else 0) (v + 1) = sm (fun u => if md u = true then 1 else 0) v + (if md v = true then 1 else 0) := rfl
      rw [es] at ih1
      have h7 := C.2.2.2.2.2.2 v (by omega)
      by_cases q : md v = true
      · rw [brF (by rw [(h7.1 q).1]; decide)]
        rw [if_pos q] at ih1
        simp only [e1, nI_add]
        exact ih1
      · rw [brT (h7.2 (by simpa using q))]
        rw [if_neg q] at ih1
        simp only [e1, e0, nI_add]
        exact ih1
theorem a2_totalL : ∀ (n s : Nat), s ≤ 200 → 201 ≤ n + s → alX2_total_b4 nv md Q n (nI (sm (fun x => if A 4 x = -100 then 0 else 1) s)) (nI s) A = Q (nI (sm (fun x => if A 4 x = -100 then 0 else 1) 200)) A := by
  intro n
  induction n with
  | zero => intro s h1 h2; exact absurd h2 (by omega)
  | succ n ih =>
    intro s h1 h2
    show aX2_total_b4 nv md Q (alX2_total_b4 nv md Q n) (nI _) (nI s) A = _
    unfold aX2_total_b4 aX2_total_b27
    rw [i_le, show (Int32.ofNat 200).toInt = 200 from rfl, i_nI (by omega)]
    by_cases h : (200 : Int) ≤ s
    · rw [brT h, show s = 200 by omega]
    · rw [brF h, in_n (by omega) (by omega), cl_nI (by omega)]
      have ih1 := ih (s + 1) (by omega) (by omega)
      have es : sm (fun x => if A 4 x = -100 then 0 else 1) (s + 1) = sm (fun x => if A 4 x = -100 then 0 else 1) s + (if A 4 s = -100 then 0 else 1) := rfl
      rw [es] at ih1
      simp only [e1, nI_add]
      by_cases q : A 4 s = -100
      · rw [brT q]; rw [if_pos q] at ih1; exact ih1
      · rw [brF q]; rw [if_neg q] at ih1; exact ih1
theorem a8_count5L : ∀ (n s : Nat), s ≤ 200 → 201 ≤ n + s → alX8_count_b118 nv md Q n (nI (sm (fun x => if A 137 x = 0 then 0 else 1) s)) (nI s) A = Q (nI (sm (fun x => if A 137 x = 0 then 0 else 1) 200)) A := by
  intro n
  induction n with
  | zero => intro s h1 h2; exact absurd h2 (by omega)
  | succ n ih =>
    intro s h1 h2
    show aX8_count_b118 nv md Q (alX8_count_b118 nv md Q n) (nI _) (nI s) A = _
    unfold aX8_count_b118 aX8_count_b140
    rw [i_le, L_200, i_nI (by omega)]
    by_cases h : (200 : Int) ≤ s
    · rw [brT h, show s = 200 by omega]
    · rw [brF h, in_n (by omega) (by omega), cl_nI (by omega)]
      have ih1 := ih (s + 1) (by omega) (by omega)
      have es : sm (fun x => if A 137 x = 0 then 0 else 1) (s + 1) = sm (fun x => if A 137 x = 0 then 0 else 1) s + (if A 137 s = 0 then 0 else 1) := rfl
      rw [es] at ih1
      by_cases q : A 137 s = 0
      · rw [brT q]
        rw [if_pos q] at ih1
        simp only [e1, e0, nI_add]
        exact ih1
      · rw [brF q]
        rw [if_neg q] at ih1
        simp only [e1, nI_add]
        exact ih1
end CSUM
