def ng (A : q_St) (v b k w : Nat) : Int32 := A (133 + w) (8 * (40 * v + b) + k)
/-- the model's comparison of NOTE k of slot x with NOTE q of slot y -/
def lik (A : q_St) (al : Bool) (x y k q : Nat) : Bool := decide (A 133 (8 * x + k) = A 133 (8 * y + q) ∧ A 134 (8 * x + k) = A 134 (8 * y + q)) && (!al || decide (A 135 (8 * x + k) = A 135 (8 * y + q) ∧ A 136 (8 * x + k) = A 136 (8 * y + q)))
def aIn (A : q_St) (al : Bool) (x y n m : Nat) : Bool := alB (fun k => exB (lik A al x y k) m) n
def cds (n m : Nat) (u r : Bool) : Int32 := if n = 0 then (if m = 0 then 0 else 4) else if m = 0 then 3 else if u = true then 1 else if r = true then 2 else 5
section CCON
variable {nv nb : Nat} {md : Nat → Bool} {Q : Int32 → q_St → Prop} {A : q_St}
theorem vT (C : Corr nv md nb A) {v b : Nat} (hv : v < nv) (hb : b < 40) : TabS A (16 + 4 * v + 1) b (cnt A v b) (ng A v b) := by
  have hn := C.1.1
  refine ⟨hb, vtab C hv b hb, (C.2.1.2.2.1 v b (by omega) hb).1, fun k w hk hw => ?_⟩
  have h8 := (C.2.1.2.2.1 v b (by omega) hb).1
  rw [show 16 + 4 * v + 1 + 2 = 19 + 4 * v by omega]
  exact C.2.1.2.1 v b k w hv hb (by omega) hw
theorem a8_areInN {k6 : Int32 → Int32 → Int32 → Int32 → Int32 → q_St → Prop} {x y k n2 : Nat} {al are : Bool} (hx : x < 240) (hy : y < 240) (hk : k < 8) (h8 : n2 ≤ 8) (hm : A 132 y = nI n2) : ∀ (m q : Nat), q ≤ n2 → 9 ≤ m + q → alX8_areIn_b23 nv md Q k6 m (nI x) (nI y) (bI al) (bI are) (nI k) (bI (exB (lik A al x y k) q)) (nI q) A = k6 (nI x) (nI y) (bI al) (bI (are && exB (lik A al x y k) n2)) (nI (k + 1)) A := by
  intro m
  induction m with
  | zero => intro q h1 h2; exact absurd h2 (by omega)
  | succ m ih =>
    intro q h1 h2
    show aX8_areIn_b23 nv md Q k6 (alX8_areIn_b23 nv md Q k6 m) (nI x) (nI y) (bI al) (bI are) (nI k) (bI (exB (lik A al x y k) q)) (nI q) A = _
    unfold aX8_areIn_b23 aX8_areIn_b190 aX8_areIn_b191
    rw [in_n (by omega) (by omega), cl_nI (by omega), hm, le_n (by omega) (by omega)]
    by_cases h : n2 ≤ q
    · rw [brT h, show q = n2 by omega, brD', brD']
      simp only [e1, nI_add]
      cases are
      · simp; rfl
      · cases exB (lik A al x y k) n2
        · simp; rfl
        · simp; rfl
    · rw [brF h]
      have ih1 := ih (q + 1) (by omega) (by omega)
      have es : exB (lik A al x y k) (q + 1) = (exB (lik A al x y k) q || lik A al x y k q) := rfl
      rw [es] at ih1
      have hb93 : ∀ t : Bool, aX8_areIn_b93 nv md Q (alX8_areIn_b23 nv md Q k6 m) (nI x) (nI y) (bI al) (bI are) (nI k) (bI (exB (lik A al x y k) q)) (nI q) (bI t) A = alX8_areIn_b23 nv md Q k6 m (nI x) (nI y) (bI al) (bI are) (nI k) (bI (exB (lik A al x y k) q || (t && (!al || decide (A 135 (8 * x + k) = A 135 (8 * y + q) ∧ A 136 (8 * x + k) = A 136 (8 * y + q)))))) (nI (q + 1)) A := by
        intro t
        unfold aX8_areIn_b93 aX8_areIn_b163 aX8_areIn_b167 aX8_areIn_b168
        simp only [e8, n_ma]
        rw [in_n (by omega) (by omega), in_n (by omega) (by omega), in_n (by omega) (by omega), in_n (by omega) (by omega), cl_nI (by omega), cl_nI (by omega), brD, brD', brD']
        simp only [e1, nI_add]
        cases exB (lik A al x y k) q
        · cases t
          · simp; rfl
          · cases al
            · simp; rfl
            · simp only [if_true, if_false, Bool.false_or, Bool.true_and, Bool.not_true, Bool.false_eq_true]
              by_cases g1 : A 135 (8 * x + k) = A 135 (8 * y + q)
              · rw [brT' g1]
                by_cases g2 : A 136 (8 * x + k) = A 136 (8 * y + q)
                · rw [brT' g2, decide_eq_true ⟨g1, g2⟩]; rfl
                · rw [brF' g2, decide_eq_false (fun z => g2 z.2)]; rfl
              · rw [brF' g1, decide_eq_false (fun z => g1 z.1)]; rfl
        · simp; rfl
      unfold aX8_areIn_b92
      have hf := hb93 false
      have ht := hb93 true
      rw [show bI false = 0 from rfl] at hf
      rw [show bI true = 1 from rfl] at ht
      rw [hf, ht]
      simp only [e8, n_ma]
      rw [in_n (by omega) (by omega), in_n (by omega) (by omega), in_n (by omega) (by omega), in_n (by omega) (by omega), cl_nI (by omega), cl_nI (by omega)]
      unfold lik at ih1
      by_cases g1 : A 133 (8 * x + k) = A 133 (8 * y + q)
      · rw [brT' g1]
        by_cases g2 : A 134 (8 * x + k) = A 134 (8 * y + q)
        · rw [brT' g2]
          rw [decide_eq_true (p := A 133 (8 * x + k) = A 133 (8 * y + q) ∧ A 134 (8 * x + k) = A 134 (8 * y + q)) ⟨g1, g2⟩] at ih1
          exact ih1
        · rw [brF' g2]
          rw [decide_eq_false (p := A 133 (8 * x + k) = A 133 (8 * y + q) ∧ A 134 (8 * x + k) = A 134 (8 * y + q)) (fun z => g2 z.2)] at ih1
          exact ih1
      · rw [brF' g1]
        rw [decide_eq_false (p := A 133 (8 * x + k) = A 133 (8 * y + q) ∧ A 134 (8 * x + k) = A 134 (8 * y + q)) (fun z => g1 z.1)] at ih1
        exact ih1
theorem a8_areInL {x y n n2 : Nat} {al : Bool} (hx : x < 240) (hy : y < 240) (h7 : n ≤ 8) (h8 : n2 ≤ 8) (hn : A 132 x = nI n) (hm : A 132 y = nI n2) : ∀ (m k : Nat), k ≤ n → 9 ≤ m + k → alX8_areIn_b6 nv md Q m (nI x) (nI y) (bI al) (bI (alB (fun k => exB (lik A al x y k) n2) k)) (nI k) A = Q (bI (aIn A al x y n n2)) A := by
  intro m
  induction m with
  | zero => intro q h1 h2; exact absurd h2 (by omega)
  | succ m ih =>
    intro k h1 h2
    show aX8_areIn_b6 nv md Q (alX8_areIn_b6 nv md Q m) (nI x) (nI y) (bI al) (bI _) (nI k) A = _
    unfold aX8_areIn_b6
    rw [in_n (by omega) (by omega), cl_nI (by omega), hn, le_n (by omega) (by omega), zr_b]
    by_cases h : n ≤ k
    · rw [brT h, show k = n by omega]; rfl
    · rw [brF h]
      have z := a8_areInN (nv := nv) (md := md) (Q := Q) (A := A) (k6 := alX8_areIn_b6 nv md Q m) (x := x) (y := y) (k := k) (n2 := n2) (al := al) (are := alB (fun k => exB (lik A al x y k) n2) k) hx hy (by omega) h8 hm q_fuel 0 (by omega) (by unfold q_fuel; omega)
      rw [show bI (exB (lik A al x y k) 0) = 0 from rfl, ← e0] at z
      rw [z]
      exact ih (k + 1) (by omega) (by omega)
theorem a8_areIn {x y n n2 : Nat} {al : Bool} (hx : x < 240) (hy : y < 240) (h7 : n ≤ 8) (h8 : n2 ≤ 8) (hn : A 132 x = nI n) (hm : A 132 y = nI n2) : aX8_areIn nv md (nI x) (nI y) (bI al) Q A = Q (bI (aIn A al x y n n2)) A :=
  a8_areInL hx hy h7 h8 hn hm _ 0 (by omega) (by unfold q_fuel; omega)
theorem n10 : ((1 : Int32) = 0) = False := eq_false (by decide)
theorem a7_condense {i j b n m : Nat} {g g2 : Nat → Nat → Int32} (T : TabS A i b n g) (T2 : TabS A j b m g2) : aX7_condense nv md i j (nI b) Q A = Q (cds n m (alk n m g g2) (rIn n m g g2 && rIn m n g2 g)) A := by
  have hn := T.2.2.1
  have hm := T2.2.2.1
  have q1 : (nI n = 0) = (n = 0) := by rw [e0, eq_n (by omega) (by omega)]
  have q2 : (nI m = 0) = (m = 0) := by rw [e0, eq_n (by omega) (by omega)]
  unfold aX7_condense aX7_condense_b13 aX7_condense_b27 aX7_condense_b40
  simp only [a3_sizeT T, a3_sizeT T2, a3_alike T T2, a3_hasRhythmIn T T2, a3_hasRhythmIn T2 T, brD', q1, q2, n10]
  unfold cds
  by_cases h1 : n = 0
  · by_cases h2 : m = 0
    · simp [h1, h2]
    · simp [h1, h2]
  · by_cases h2 : m = 0
    · simp [h1, h2]
    · simp [h1, h2]
      cases alk n m g g2
      · cases rIn n m g g2
        · simp
        · cases rIn m n g2 g
          · simp
          · simp
      · simp
theorem a8_condAt (C : Corr nv md nb A) {v u b : Nat} (hv : v < 6) (hu : u < 6) (hb : b < 40) : aX8_condensedAt nv md (nI v) (nI u) (nI b) Q A = Q (cds (cnt A v b) (cnt A u b) (decide (cnt A v b = cnt A u b) && (aIn A true (40 * v + b) (40 * u + b) (cnt A v b) (cnt A u b) && aIn A true (40 * u + b) (40 * v + b) (cnt A u b) (cnt A v b))) (aIn A false (40 * v + b) (40 * u + b) (cnt A v b) (cnt A u b) && aIn A false (40 * u + b) (40 * v + b) (cnt A u b) (cnt A v b))) A := by
  have h1 := C.2.1.2.2.1 v b hv hb
  have h2 := C.2.1.2.2.1 u b hu hb
  have q1 : (nI (cnt A v b) = 0) = (cnt A v b = 0) := by rw [e0, eq_n (by omega) (by omega)]
  have q2 : (nI (cnt A u b) = 0) = (cnt A u b = 0) := by rw [e0, eq_n (by omega) (by omega)]
  have q3 : (nI (cnt A v b) = nI (cnt A u b)) = (cnt A v b = cnt A u b) := by rw [eq_n (by omega) (by omega)]
  have q4 : (nI (cnt A v b) ≤ 0) = (cnt A v b = 0) := by rw [e0, le_n (by omega) (by omega)]; simp
  have q5 : (nI (cnt A u b) ≤ 0) = (cnt A u b = 0) := by rw [e0, le_n (by omega) (by omega)]; simp
  have i1 : ∀ P, (vp_in (nI (40 * v + b)) 240 ∧ P) = P := fun P => in_n (by omega) (by omega)
  have i2 : ∀ P, (vp_in (nI (40 * u + b)) 240 ∧ P) = P := fun P => in_n (by omega) (by omega)
  have a1 : ∀ K : Int32 → q_St → Prop, aX8_areIn nv md (nI (40 * v + b)) (nI (40 * u + b)) 1 K A = K (bI (aIn A true (40 * v + b) (40 * u + b) (cnt A v b) (cnt A u b))) A := fun K => a8_areIn (al := true) (by omega) (by omega) h1.1 h2.1 h1.2 h2.2
  have a2 : ∀ K : Int32 → q_St → Prop, aX8_areIn nv md (nI (40 * u + b)) (nI (40 * v + b)) 1 K A = K (bI (aIn A true (40 * u + b) (40 * v + b) (cnt A u b) (cnt A v b))) A := fun K => a8_areIn (al := true) (by omega) (by omega) h2.1 h1.1 h2.2 h1.2
  have a3 : ∀ K : Int32 → q_St → Prop, aX8_areIn nv md (nI (40 * v + b)) (nI (40 * u + b)) 0 K A = K (bI (aIn A false (40 * v + b) (40 * u + b) (cnt A v b) (cnt A u b))) A := fun K => a8_areIn (al := false) (by omega) (by omega) h1.1 h2.1 h1.2 h2.2
  have a4 : ∀ K : Int32 → q_St → Prop, aX8_areIn nv md (nI (40 * u + b)) (nI (40 * v + b)) 0 K A = K (bI (aIn A false (40 * u + b) (40 * v + b) (cnt A u b) (cnt A v b))) A := fun K => a8_areIn (al := false) (by omega) (by omega) h2.1 h1.1 h2.2 h1.2
  have l1 : (nI (40 * v + b)).toNatClampNeg = 40 * v + b := cl_nI (by omega)
  have l2 : (nI (40 * u + b)).toNatClampNeg = 40 * u + b := cl_nI (by omega)
  unfold aX8_condensedAt aX8_condensedAt_b36 aX8_condensedAt_b109
  simp only [e40, n_ma, i1, i2, l1, l2, h1.2, h2.2, a1, a2, a3, a4, brD', q1, q2, q3, q4, q5]
  unfold cds
  generalize aIn A true (40 * v + b) (40 * u + b) (cnt A v b) (cnt A u b) = t1
  generalize aIn A true (40 * u + b) (40 * v + b) (cnt A u b) (cnt A v b) = t2
  generalize aIn A false (40 * v + b) (40 * u + b) (cnt A v b) (cnt A u b) = t3
  generalize aIn A false (40 * u + b) (40 * v + b) (cnt A u b) (cnt A v b) = t4
  generalize cnt A v b = n
  generalize cnt A u b = m
  by_cases g1 : n = 0
  · by_cases g2 : m = 0
    · simp [g1, g2]
    · simp [g1, g2]
  · by_cases g2 : m = 0
    · simp [g1, g2]
    · by_cases g3 : n = m
      · cases t1 <;> cases t2 <;> cases t3 <;> cases t4 <;> simp [g2, g3]
      · cases t3 <;> cases t4 <;> simp [g1, g2, g3]
end CCON
