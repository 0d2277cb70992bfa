/-! what class and model have in common -/
def cnt (A : q_St) (v b : Nat) : Nat := (A 132 (40 * v + b)).toNatClampNeg
def cSc (nv nb : Nat) (A : q_St) : Prop := nv ≤ 6 ∧ nb ≤ 40 ∧ A 1 2 = nI nv ∧ A 128 0 = nI nv ∧ A 1 3 = nI nb ∧ A 128 1 = nI nb ∧ A 1 4 = A 128 11
def cTb (nv nb : Nat) (A : q_St) : Prop :=
  (∀ v b, v < nv → b < 40 → A (18 + 4 * v) b = A 132 (40 * v + b)) ∧
  (∀ v b k w, v < nv → b < 40 → k < 8 → w < 4 → A (19 + 4 * v) ((b * 8 + k) * 4 + w) = A (133 + w) (8 * (40 * v + b) + k)) ∧
  (∀ v b, v < 6 → b < 40 → cnt A v b ≤ 8 ∧ A 132 (40 * v + b) = nI (cnt A v b)) ∧
  (∀ v b, v < 6 → b < 40 → nv ≤ v ∨ nb ≤ b → cnt A v b = 0) ∧
  (∀ v b k w, nv ≤ v → v < 6 → b < 40 → k < 8 → w < 4 → A (133 + w) (8 * (40 * v + b) + k) = 0)
def lexlt (A : q_St) (x y : Nat) : Prop := (A 133 x).toInt < (A 133 y).toInt ∨ ((A 133 x).toInt = (A 133 y).toInt ∧ (A 135 x).toInt < (A 135 y).toInt)
def nok (A : q_St) (x : Nat) : Prop := 0 ≤ (A 133 x).toInt ∧ (A 133 x).toInt ≤ 47 ∧ 1 ≤ (A 134 x).toInt ∧ (A 134 x).toInt ≤ 48 ∧ 0 ≤ (A 135 x).toInt ∧ (A 135 x).toInt ≤ 127 ∧ -15 ≤ (A 136 x).toInt ∧ (A 136 x).toInt ≤ 19
def cNt (A : q_St) : Prop := ∀ v b k, v < 6 → b < 40 → k < cnt A v b → nok A (8 * (40 * v + b) + k) ∧ (k + 1 < cnt A v b → lexlt A (8 * (40 * v + b) + k) (8 * (40 * v + b) + (k + 1)))
def cMk (nb : Nat) (A : q_St) : Prop := ∀ b k, b < 40 → k < 5 → (A 137 (5 * b + k) = 0 ∧ A 4 (b * 5 + k) = -100) ∨ (A 137 (5 * b + k) = 1 ∧ A 4 (b * 5 + k) = A 138 (5 * b + k) ∧ b < nb ∧ -7 ≤ (A 138 (5 * b + k)).toInt ∧ (A 138 (5 * b + k)).toInt ≤ 999 ∧ (k = 0 → (A 138 (5 * b + k)).toInt ≤ 7))
def cVc (nv : Nat) (A : q_St) : Prop :=
  (∀ v, v < nv → A (16 + 4 * v) 0 = nI v ∧ A (16 + 4 * v) 2 = A 139 v ∧ A (16 + 4 * v) 3 = A 140 v) ∧
  (∀ v, v < 6 → -6 ≤ (A 139 v).toInt ∧ (A 139 v).toInt ≤ 6 ∧ -2 ≤ (A 140 v).toInt ∧ (A 140 v).toInt ≤ 2) ∧
  (∀ v, nv ≤ v → v < 6 → A 139 v = 0 ∧ A 140 v = 0)
def cPg (A : q_St) : Prop := A 0 4 = A 128 22 ∧ A 0 5 = A 128 23 ∧ 8 ≤ (A 128 22).toInt ∧ (A 128 22).toInt ≤ 60 ∧ 1 ≤ (A 128 23).toInt ∧ (A 128 23).toInt ≤ 12
/-- one row: of the class's PART with number j, and of the model's slot p -/
def rRel (A : q_St) (j p i : Nat) : Prop :=
  A (j + 1) (i * 7 + 0) = A 144 (40 * p + i) ∧ A (j + 1) (i * 7 + 1) = A 145 (40 * p + i) ∧ A (j + 1) (i * 7 + 2) = A 146 (40 * p + i) ∧ A (j + 1) (i * 7 + 3) = A 147 (40 * p + i) ∧
  A (j + 1) (i * 7 + 4) = A 148 (40 * p + i) ∧ A (j + 1) (i * 7 + 5) = A 150 (40 * p + i) ∧ A (j + 1) (i * 7 + 6) = A 149 (40 * p + i) ∧
  A (j + 3) i = A 150 (40 * p + i) ∧ (1 ≤ (A 147 (40 * p + i)).toInt ∧ (A 147 (40 * p + i)).toInt ≤ 20) ∧
  ∃ n, n ≤ 8 ∧ A 150 (40 * p + i) = nI n ∧ ∀ k w, k < n → w < 4 → A (j + 4) ((i * 8 + k) * 4 + w) = A 151 (32 * (40 * p + i) + (4 * k + w))
def pRel (A : q_St) (j p : Nat) : Prop := ∃ rc, rc ≤ 40 ∧ A j 2 = nI rc ∧ A 143 p = nI rc ∧ ∀ i, i < rc → rRel A j p i
def cPt (md : Nat → Bool) (A : q_St) : Prop := ∀ v, v < 6 → (md v = true → A 142 v = 1 ∧ pRel A (64 + 5 * v) v) ∧ (md v = false → A 142 v = 0)
def Corr (nv : Nat) (md : Nat → Bool) (nb : Nat) (A : q_St) : Prop := cSc nv nb A ∧ cTb nv nb A ∧ cNt A ∧ cMk nb A ∧ cVc nv A ∧ cPg A ∧ cPt md A
theorem cnt_congr {A A' : q_St} (h : A' 132 = A 132) (v b : Nat) : cnt A' v b = cnt A v b := by unfold cnt; rw [h]
theorem cTb_congr {nv nb : Nat} {A A' : q_St} (hn : nv ≤ 6) (h1 : ∀ i, 16 ≤ i → i < 40 → i % 4 = 2 ∨ i % 4 = 3 → A' i = A i) (h2 : ∀ i, 132 ≤ i → i ≤ 136 → A' i = A i) (h : cTb nv nb A) : cTb nv nb A' := by
  obtain ⟨a, b, c, d, e⟩ := h
  have hc := cnt_congr (h2 132 (by omega) (by omega))
  refine ⟨fun v x hv hx => ?_, fun v x k w hv hx hk hw => ?_, fun v x hv hx => ?_, fun v x hv hx => ?_, fun v x k w h3 hv hx hk hw => ?_⟩
  · rw [h1 _ (by omega) (by omega) (by omega), h2 132 (by omega) (by omega)]; exact a v x hv hx
  · rw [h1 _ (by omega) (by omega) (by omega), h2 (133 + w) (by omega) (by omega)]; exact b v x k w hv hx hk hw
  · rw [hc, h2 132 (by omega) (by omega)]; exact c v x hv hx
  · rw [hc]; exact d v x hv hx
  · rw [h2 (133 + w) (by omega) (by omega)]; exact e v x k w h3 hv hx hk hw
theorem cNt_congr {A A' : q_St} (h2 : ∀ i, 132 ≤ i → i ≤ 136 → A' i = A i) (h : cNt A) : cNt A' := by
  have hc := cnt_congr (h2 132 (by omega) (by omega))
  intro v b k hv hb hk
  rw [hc] at hk ⊢
  unfold nok lexlt
  rw [h2 133 (by omega) (by omega), h2 134 (by omega) (by omega), h2 135 (by omega) (by omega), h2 136 (by omega) (by omega)]
  exact h v b k hv hb hk
theorem cMk_congr {nb : Nat} {A A' : q_St} (h1 : A' 4 = A 4) (h2 : A' 137 = A 137) (h3 : A' 138 = A 138) (h : cMk nb A) : cMk nb A' := by
  unfold cMk; rw [h1, h2, h3]; exact h
theorem cVc_congr {nv : Nat} {A A' : q_St} (hn : nv ≤ 6) (h1 : ∀ i, 16 ≤ i → i < 40 → i % 4 = 0 → A' i = A i) (h2 : A' 139 = A 139) (h3 : A' 140 = A 140) (h : cVc nv A) : cVc nv A' := by
  unfold cVc; rw [h2, h3]
  refine ⟨fun v hv => ?_, h.2⟩
  rw [h1 _ (by omega) (by omega) (by omega)]
  exact h.1 v hv
theorem cPg_congr {A A' : q_St} (h1 : A' 0 = A 0) (h2 : A' 128 22 = A 128 22) (h3 : A' 128 23 = A 128 23) (h : cPg A) : cPg A' := by
  unfold cPg; rw [h1, h2, h3]; exact h
theorem cSc_congr {nv nb : Nat} {A A' : q_St} (h1 : A' 1 = A 1) (h2 : A' 128 0 = A 128 0) (h3 : A' 128 1 = A 128 1) (h4 : A' 128 11 = A 128 11) (h : cSc nv nb A) : cSc nv nb A' := by
  unfold cSc; rw [h1, h2, h3, h4]; exact h
theorem rRel_congr {A A' : q_St} {j j' p i : Nat} (h1 : ∀ d, d < 5 → A' (j' + d) = A (j + d)) (h2 : ∀ q, 144 ≤ q → q ≤ 150 → A' q (40 * p + i) = A q (40 * p + i)) (h3 : ∀ k w, k < 8 → w < 4 → A' 151 (32 * (40 * p + i) + (4 * k + w)) = A 151 (32 * (40 * p + i) + (4 * k + w))) (h : rRel A j p i) : rRel A' j' p i := by
  unfold rRel at h ⊢
  rw [h1 1 (by omega), h1 3 (by omega), h1 4 (by omega), h2 144 (by omega) (by omega), h2 145 (by omega) (by omega), h2 146 (by omega) (by omega), h2 147 (by omega) (by omega), h2 148 (by omega) (by omega), h2 149 (by omega) (by omega), h2 150 (by omega) (by omega)]
  obtain ⟨a1, a2, a3, a4, a5, a6, a7, a8, a9, n, hn, e, f⟩ := h
  exact ⟨a1, a2, a3, a4, a5, a6, a7, a8, a9, n, hn, e, fun k w hk hw => by rw [h3 k w (by omega) hw]; exact f k w hk hw⟩
theorem pRel_congr {A A' : q_St} {j j' p : Nat} (h1 : ∀ d, d < 5 → A' (j' + d) = A (j + d)) (h0 : A' 143 p = A 143 p) (h2 : ∀ q i, 144 ≤ q → q ≤ 150 → i < 40 → A' q (40 * p + i) = A q (40 * p + i)) (h3 : ∀ i k w, i < 40 → k < 8 → w < 4 → A' 151 (32 * (40 * p + i) + (4 * k + w)) = A 151 (32 * (40 * p + i) + (4 * k + w))) (h : pRel A j p) : pRel A' j' p := by
  obtain ⟨rc, a, b, c, d⟩ := h
  have h10 := h1 0 (by omega)
  simp only [Nat.add_zero] at h10
  exact ⟨rc, a, by rw [h10]; exact b, by rw [h0]; exact c, fun i hi => rRel_congr h1 (fun q h q2 => h2 q i h q2 (by omega)) (fun k w hk hw => h3 i k w (by omega) hk hw) (d i hi)⟩
theorem cPt_congr {md : Nat → Bool} {A A' : q_St} (h1 : ∀ i, 64 ≤ i → i < 94 → A' i = A i) (h0 : A' 142 = A 142) (h4 : ∀ p, p < 6 → A' 143 p = A 143 p) (h2 : ∀ q x, 144 ≤ q → q ≤ 150 → x < 240 → A' q x = A q x) (h3 : ∀ x, x < 7680 → A' 151 x = A 151 x) (h : cPt md A) : cPt md A' := by
  intro v hv
  rw [h0]
  refine ⟨fun hm => ⟨((h v hv).1 hm).1, pRel_congr (fun d hd => h1 _ (by omega) (by omega)) (h4 v hv) (fun q i a b hi => h2 q _ a b (by omega)) (fun i k w hi hk hw => h3 _ (by omega)) ((h v hv).1 hm).2⟩, (h v hv).2⟩
/-- what the model and the class write on the way, and read no more -/
def scr (i k : Nat) : Bool := (decide (5 ≤ i) && decide (i ≤ 10)) || (decide (94 ≤ i) && decide (i ≤ 98)) || (decide (152 ≤ i)) || (decide (i = 128) && (decide (k = 25) || decide (k = 26) || decide (k = 31))) || (decide (i = 143) && decide (6 ≤ k)) || (decide (144 ≤ i) && decide (i ≤ 150) && decide (240 ≤ k)) || (decide (i = 151) && decide (7680 ≤ k))
def Keep (A A' : q_St) : Prop := ∀ i k, scr i k = false → A' i k = A i k
theorem Keep.rf {A : q_St} : Keep A A := fun _ _ _ => rfl
theorem Keep.tr {A B C : q_St} (h : Keep A B) (g : Keep B C) : Keep A C := fun i k s => (g i k s).trans (h i k s)
theorem Keep.u {A B : q_St} (h : Keep A B) {i k : Nat} (hs : scr i k = true) (x : Int32) : Keep A (q_u B i k x) := by
  intro j q s
  by_cases e : j = i
  · subst e
    rw [q_u_self]
    by_cases e2 : q = k
    · subst e2; rw [hs] at s; cases s
    · rw [pk_un e2]; exact h j q s
  · rw [q_u_ne _ _ _ e]; exact h j q s
theorem Keep.arr {A A' : q_St} (h : Keep A A') {i : Nat} (hi : ∀ k, scr i k = false) : A' i = A i := funext fun k => h i k (hi k)
theorem Corr.keep {nv nb : Nat} {md : Nat → Bool} {A A' : q_St} (C : Corr nv md nb A) (h : Keep A A') : Corr nv md nb A' := by
  obtain ⟨c1, c2, c3, c4, c5, c6, c7⟩ := C
  have hn := c1.1
  refine ⟨cSc_congr (h.arr (by intro k; simp [scr])) (h _ _ (by simp [scr])) (h _ _ (by simp [scr])) (h _ _ (by simp [scr])) c1, cTb_congr hn (fun i a b c => h.arr (by intro k; simp [scr]; omega)) (fun i a b => h.arr (by intro k; simp [scr]; omega)) c2, cNt_congr (fun i a b => h.arr (by intro k; simp [scr]; omega)) c3, cMk_congr (h.arr (by intro k; simp [scr])) (h.arr (by intro k; simp [scr])) (h.arr (by intro k; simp [scr])) c4, cVc_congr hn (fun i a b c => h.arr (by intro k; simp [scr]; omega)) (h.arr (by intro k; simp [scr])) (h.arr (by intro k; simp [scr])) c5, cPg_congr (h.arr (by intro k; simp [scr])) (h _ _ (by simp [scr])) (h _ _ (by simp [scr])) c6, cPt_congr (fun i a b => h.arr (by intro k; simp [scr]; omega)) (h.arr (by intro k; simp [scr])) (fun p hp => h _ _ (by simp [scr]; omega)) (fun q x a b c => h _ _ (by simp [scr]; omega)) (fun x hx => h _ _ (by simp [scr]; omega)) c7⟩
