def exB (P : Nat → Bool) : Nat → Bool
  | 0 => false
  | n + 1 => exB P n || P n
def alB (P : Nat → Bool) : Nat → Bool
  | 0 => true
  | n + 1 => alB P n && P n
theorem exB_iff {P : Nat → Bool} : ∀ {n : Nat}, exB P n = true ↔ ∃ k, k < n ∧ P k = true := by
  intro n
  induction n with
  | zero => simp [exB]
  | succ n ih =>
    simp only [exB, Bool.or_eq_true, ih]
    constructor
    · rintro (⟨k, a, b⟩ | h)
      · exact ⟨k, by omega, b⟩
      · exact ⟨n, by omega, h⟩
    · rintro ⟨k, a, b⟩
      by_cases e : k = n
      · right; rw [← e]; exact b
      · left; exact ⟨k, by omega, b⟩
theorem alB_iff {P : Nat → Bool} : ∀ {n : Nat}, alB P n = true ↔ ∀ k, k < n → P k = true := by
  intro n
  induction n with
  | zero => simp [alB]
  | succ n ih =>
    simp only [alB, Bool.and_eq_true, ih]
    constructor
    · rintro ⟨h, g⟩ k hk
      by_cases e : k = n
      · rw [e]; exact g
      · exact h k (by omega)
    · intro h
      exact ⟨fun k hk => h k (by omega), h n (by omega)⟩
theorem exB_eq {P : Nat → Bool} {n : Nat} {b : Bool} (h : (∃ k, k < n ∧ P k = true) ↔ b = true) : exB P n = b := by
  cases b
  · rw [Bool.eq_false_iff]; intro q; exact absurd (h.mp (exB_iff.mp q)) (by simp)
  · exact exB_iff.mpr (h.mpr rfl)
theorem alB_eq {P : Nat → Bool} {n : Nat} {b : Bool} (h : (∀ k, k < n → P k = true) ↔ b = true) : alB P n = b := by
  cases b
  · rw [Bool.eq_false_iff]; intro q; exact absurd (h.mp (alB_iff.mp q)) (by simp)
  · exact alB_iff.mpr (h.mpr rfl)
/-- one slot of a NoteTable: n NOTES, g what they are -/
def TabS (A : q_St) (i b n : Nat) (g : Nat → Nat → Int32) : Prop := b < 40 ∧ A (i + 1) b = nI n ∧ n ≤ 8 ∧ ∀ k w, k < n → w < 4 → A (i + 2) ((b * 8 + k) * 4 + w) = g k w
section CTAB
variable {nv nb : Nat} {md : Nat → Bool} {Q : Int32 → q_St → Prop} {A : q_St} {i j b n n2 : Nat} {g g2 : Nat → Nat → Int32}
theorem a3_sizeT (T : TabS A i b n g) : aX3_size nv md i (nI b) Q A = Q (nI n) A := by rw [a3_size_n _ T.1, T.2.1]
theorem a3_figT (T : TabS A i b n g) {k w : Nat} (hk : k < n) (hw : w < 4) : aX3_figure nv md i (nI b) (nI k) (nI w) Q A = Q (g k w) A := by
  obtain ⟨hb, h1, h2, h3⟩ := T
  unfold aX3_figure
  rw [cl_nI (by omega), h1]
  simp only [i_lt, i_le, L_0, L_40, L_4]
  rw [i_nI (by omega), i_nI (by omega), i_nI (by omega), i_nI (by omega), brF (by omega), brF (by omega), brF (by omega), in_n (by omega) (by omega), brF (by omega), brF (by omega), brT (by omega)]
  simp only [e8, e4, pk_mul, nI_add]
  rw [in_n (by omega) (by omega), cl_nI (by omega), h3 k w hk hw]
theorem a3_figT0 (T : TabS A i b n g) {k : Nat} (hk : k < n) : aX3_figure nv md i (nI b) (nI k) 0 Q A = Q (g k 0) A := a3_figT T hk (w := 0) (by omega)
theorem a3_figT1 (T : TabS A i b n g) {k : Nat} (hk : k < n) : aX3_figure nv md i (nI b) (nI k) 1 Q A = Q (g k 1) A := a3_figT T hk (w := 1) (by omega)
theorem a3_figT2 (T : TabS A i b n g) {k : Nat} (hk : k < n) : aX3_figure nv md i (nI b) (nI k) 2 Q A = Q (g k 2) A := a3_figT T hk (w := 2) (by omega)
theorem a3_figT3 (T : TabS A i b n g) {k : Nat} (hk : k < n) : aX3_figure nv md i (nI b) (nI k) 3 Q A = Q (g k 3) A := a3_figT T hk (w := 3) (by omega)
theorem le_n {a b : Nat} (ha : a < 2147483648) (hb : b < 2147483648) : (nI a ≤ nI b) = (a ≤ b) := propext (nI_leI ha hb)
theorem lt_n {a b : Nat} (ha : a < 2147483648) (hb : b < 2147483648) : (nI a < nI b) = (a < b) := propext (nI_ltI ha hb)
theorem eq_n {a b : Nat} (ha : a < 2147483648) (hb : b < 2147483648) : (nI a = nI b) = (a = b) := propext (nI_eq ha hb)
theorem a3_hasAtL (T : TabS A i b n g) {s p : Int32} : ∀ (m k : Nat), k ≤ n → 9 ≤ m + k → (∀ q, q < k → ¬ (g q 0 = s ∧ g q 2 = p)) → alX3_hasAt_b3 nv md Q m i (nI b) s p (nI k) A = Q (bI (exB (fun q => decide (g q 0 = s ∧ g q 2 = p)) n)) A := by
  have hn := T.2.2.1
  intro m
  induction m with
  | zero => intro k h1 h2; exact absurd h2 (by omega)
  | succ m ih =>
    intro k h1 h2 hk
    show aX3_hasAt_b3 nv md Q (alX3_hasAt_b3 nv md Q m) i (nI b) s p (nI k) A = _
    unfold aX3_hasAt_b3 aX3_hasAt_b39
    rw [a3_sizeT T, le_n (by omega) (by omega), zr_0]
    by_cases h : n ≤ k
    · rw [brT h, exB_eq (b := false)]
      · rfl
      · simp
        intro q hq hs
        exact fun hp => hk q (by omega) ⟨hs, hp⟩
    · rw [brF h, a3_figT0 T (by omega), a3_figT2 T (by omega), zr_1]
      simp only [e1, nI_add]
      by_cases hs : g k 0 = s
      · rw [brT' hs]
        by_cases hp : g k 2 = p
        · rw [brT' hp, exB_eq (b := true)]
          · rfl
          · simp
            exact ⟨k, by omega, hs, hp⟩
        · rw [brF' hp]
          exact ih (k + 1) (by omega) (by omega) (fun q hq => by
            by_cases e : q = k
            · rw [e]; exact fun z => hp z.2
            · exact hk q (by omega))
      · rw [brF' hs]
        exact ih (k + 1) (by omega) (by omega) (fun q hq => by
          by_cases e : q = k
          · rw [e]; exact fun z => hs z.1
          · exact hk q (by omega))
theorem a3_hasAt (T : TabS A i b n g) {s p : Int32} : aX3_hasAt nv md i (nI b) s p Q A = Q (bI (exB (fun q => decide (g q 0 = s ∧ g q 2 = p)) n)) A :=
  a3_hasAtL T _ 0 (by omega) (by unfold q_fuel; omega) (fun q hq => absurd hq (by omega))
theorem a3_hasRhythmL (T : TabS A i b n g) {s p : Int32} : ∀ (m k : Nat), k ≤ n → 9 ≤ m + k → (∀ q, q < k → ¬ (g q 0 = s ∧ g q 1 = p)) → alX3_hasRhythm_b3 nv md Q m i (nI b) s p (nI k) A = Q (bI (exB (fun q => decide (g q 0 = s ∧ g q 1 = p)) n)) A := by
  have hn := T.2.2.1
  intro m
  induction m with
  | zero => intro k h1 h2; exact absurd h2 (by omega)
  | succ m ih =>
    intro k h1 h2 hk
    show aX3_hasRhythm_b3 nv md Q (alX3_hasRhythm_b3 nv md Q m) i (nI b) s p (nI k) A = _
    unfold aX3_hasRhythm_b3 aX3_hasRhythm_b39
    rw [a3_sizeT T, le_n (by omega) (by omega), zr_0]
    by_cases h : n ≤ k
    · rw [brT h, exB_eq (b := false)]
      · rfl
      · simp
        intro q hq hs
        exact fun hp => hk q (by omega) ⟨hs, hp⟩
    · rw [brF h, a3_figT0 T (by omega), a3_figT1 T (by omega), zr_1]
      simp only [e1, nI_add]
      by_cases hs : g k 0 = s
      · rw [brT' hs]
        by_cases hp : g k 1 = p
        · rw [brT' hp, exB_eq (b := true)]
          · rfl
          · simp
            exact ⟨k, by omega, hs, hp⟩
        · rw [brF' hp]
          exact ih (k + 1) (by omega) (by omega) (fun q hq => by
            by_cases e : q = k
            · rw [e]; exact fun z => hp z.2
            · exact hk q (by omega))
      · rw [brF' hs]
        exact ih (k + 1) (by omega) (by omega) (fun q hq => by
          by_cases e : q = k
          · rw [e]; exact fun z => hs z.1
          · exact hk q (by omega))
theorem a3_hasRhythm (T : TabS A i b n g) {s p : Int32} : aX3_hasRhythm nv md i (nI b) s p Q A = Q (bI (exB (fun q => decide (g q 0 = s ∧ g q 1 = p)) n)) A :=
  a3_hasRhythmL T _ 0 (by omega) (by unfold q_fuel; omega) (fun q hq => absurd hq (by omega))
def rIn (n n2 : Nat) (g g2 : Nat → Nat → Int32) : Bool := alB (fun k => exB (fun q => decide (g2 q 0 = g k 0 ∧ g2 q 1 = g k 1)) n2) n
theorem a3_hasRhythmInL (T : TabS A i b n g) (T2 : TabS A j b n2 g2) : ∀ (m k : Nat), k ≤ n → 9 ≤ m + k → (∀ q, q < k → exB (fun r => decide (g2 r 0 = g q 0 ∧ g2 r 1 = g q 1)) n2 = true) → alX3_hasRhythmIn_b2 nv md Q m i j (nI b) (nI k) A = Q (bI (rIn n n2 g g2)) A := by
  have hn := T.2.2.1
  intro m
  induction m with
  | zero => intro k h1 h2; exact absurd h2 (by omega)
  | succ m ih =>
    intro k h1 h2 hk
    show aX3_hasRhythmIn_b2 nv md Q (alX3_hasRhythmIn_b2 nv md Q m) i j (nI b) (nI k) A = _
    unfold aX3_hasRhythmIn_b2
    rw [a3_sizeT T, le_n (by omega) (by omega), zr_1]
    by_cases h : n ≤ k
    · rw [brT h, rIn, alB_eq (b := true)]
      · rfl
      · simp only [iff_true]
        intro q hq
        exact hk q (by omega)
    · rw [brF h, a3_figT0 T (by omega), a3_figT1 T (by omega), a3_hasRhythm T2, zr_0, brD]
      simp only [e1, nI_add]
      by_cases hs : exB (fun q => decide (g2 q 0 = g k 0 ∧ g2 q 1 = g k 1)) n2 = true
      · rw [if_pos hs]
        exact ih (k + 1) (by omega) (by omega) (fun q hq => by
          by_cases e : q = k
          · rw [e]; exact hs
          · exact hk q (by omega))
      · rw [if_neg hs, rIn, alB_eq (b := false)]
        · rfl
        · simp only [Bool.false_eq_true, iff_false]
          intro z
          exact hs (z k (by omega))
theorem a3_hasRhythmIn (T : TabS A i b n g) (T2 : TabS A j b n2 g2) : aX3_hasRhythmIn nv md i j (nI b) Q A = Q (bI (rIn n n2 g g2)) A :=
  a3_hasRhythmInL T T2 _ 0 (by omega) (by unfold q_fuel; omega) (fun q hq => absurd hq (by omega))
def alk (n n2 : Nat) (g g2 : Nat → Nat → Int32) : Bool := decide (n = n2) && alB (fun k => alB (fun w => decide (g k w = g2 k w)) 4) n
theorem a3_alikeW (T : TabS A i b n g) (T2 : TabS A j b n g2) {k17 : Nat → Nat → Int32 → Int32 → q_St → Prop} {k : Nat} (hk : k < n) : ∀ (m w : Nat), w ≤ 4 → 5 ≤ m + w → (∀ q, q < w → g k q = g2 k q) → alX3_isAlike_b29 nv md Q k17 m i j (nI b) (nI k) (nI w) A = if alB (fun w => decide (g k w = g2 k w)) 4 = true then k17 i j (nI b) (nI (k + 1)) A else Q 0 A := by
  have hn := T.2.2.1
  intro m
  induction m with
  | zero => intro k h1 h2; exact absurd h2 (by omega)
  | succ m ih =>
    intro w h1 h2 hw
    show aX3_isAlike_b29 nv md Q k17 (alX3_isAlike_b29 nv md Q k17 m) i j (nI b) (nI k) (nI w) A = _
    unfold aX3_isAlike_b29
    rw [e4, le_n (by omega) (by omega)]
    simp only [e1, nI_add]
    by_cases h : 4 ≤ w
    · rw [brT h, if_pos (alB_iff.mpr (fun q hq => by simp; exact hw q (by omega)))]
    · rw [brF h, a3_figT T hk (by omega), a3_figT T2 hk (by omega), zr_0]
      by_cases e : g k w = g2 k w
      · rw [brT e]
        exact ih (w + 1) (by omega) (by omega) (fun q hq => by
          by_cases z : q = w
          · rw [z]; exact e
          · exact hw q (by omega))
      · rw [brF e, if_neg (fun z => e (by simpa using alB_iff.mp z w (by omega)))]
theorem a3_alikeL (T : TabS A i b n g) (T2 : TabS A j b n g2) : ∀ (m k : Nat), k ≤ n → 9 ≤ m + k → (∀ q, q < k → alB (fun w => decide (g q w = g2 q w)) 4 = true) → alX3_isAlike_b17 nv md Q m i j (nI b) (nI k) A = Q (bI (alB (fun k => alB (fun w => decide (g k w = g2 k w)) 4) n)) A := by
  have hn := T.2.2.1
  intro m
  induction m with
  | zero => intro k h1 h2; exact absurd h2 (by omega)
  | succ m ih =>
    intro k h1 h2 hk
    show aX3_isAlike_b17 nv md Q (alX3_isAlike_b17 nv md Q m) i j (nI b) (nI k) A = _
    unfold aX3_isAlike_b17
    rw [a3_sizeT T, le_n (by omega) (by omega), zr_1]
    by_cases h : n ≤ k
    · rw [brT h, alB_eq (b := true)]
      · rfl
      · simp only [iff_true]
        intro q hq
        exact hk q (by omega)
    · rw [brF h, e0, a3_alikeW T T2 (by omega) _ 0 (by omega) (by unfold q_fuel; omega) (fun q hq => absurd hq (by omega))]
      by_cases hs : alB (fun w => decide (g k w = g2 k w)) 4 = true
      · rw [if_pos hs]
        exact ih (k + 1) (by omega) (by omega) (fun q hq => by
          by_cases e : q = k
          · rw [e]; exact hs
          · exact hk q (by omega))
      · rw [if_neg hs, alB_eq (b := false)]
        · rfl
        · simp only [Bool.false_eq_true, iff_false]
          intro z
          exact hs (z k (by omega))
theorem a3_alike (T : TabS A i b n g) (T2 : TabS A j b n2 g2) : aX3_isAlike nv md i j (nI b) Q A = Q (bI (alk n n2 g g2)) A := by
  have hn := T.2.2.1
  have hn2 := T2.2.2.1
  unfold aX3_isAlike
  rw [a3_sizeT T, a3_sizeT T2, eq_n (by omega) (by omega), zr_0]
  by_cases h : n = n2
  · rw [brT h]
    subst h
    unfold alk
    rw [e0, a3_alikeL T T2 _ 0 (by omega) (by unfold q_fuel; omega) (fun q hq => absurd hq (by omega)), decide_eq_true rfl, Bool.true_and]
  · rw [brF h]
    unfold alk
    rw [decide_eq_false h]
    rfl
end CTAB
