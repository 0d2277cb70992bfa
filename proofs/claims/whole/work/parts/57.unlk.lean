def unR (r rc1 rc2 : Nat) : Int32 := if r = rc1 ∧ r = rc2 then -100 else nI r
section CUNLK
variable {nv nb : Nat} {md : Nat → Bool} {D A A' : q_St}
theorem c_firstL {Q : Int32 → q_St → Prop} {P : Nat → Bool} {j1 j2 rc1 rc2 X : Nat} (r1 : A j1 2 = nI rc1) (r2 : A j2 2 = nI rc2) (l1 : rc1 ≤ 40) (l2 : rc2 ≤ 40) (x1 : rc1 ≤ X) (x2 : rc2 ≤ X) (x3 : X = rc1 ∨ X = rc2) (hP : ∀ i, i < rc1 → i < rc2 → ∀ Q : Int32 → q_St → Prop, aX4_isRowAlike nv md j1 j2 (nI i) Q A = Q (bI (P i)) A) : ∀ (m f i : Nat), m + i ≤ rc1 → m + i ≤ rc2 → (m + i = rc1 ∨ m + i = rc2) → m < f → alX4_firstUnlike_b14 nv md Q f j1 j2 (nI X) (nI i) A = Q (unR (ffS P m i) rc1 rc2) A := by
  intro m
  induction m with
  | zero =>
    intro f i h1 h2 h3 h4
    cases f with
    | zero => exact absurd h4 (by omega)
    | succ f =>
      show aX4_firstUnlike_b14 nv md Q (alX4_firstUnlike_b14 nv md Q f) j1 j2 (nI X) (nI i) A = Q (unR i rc1 rc2) A
      unfold aX4_firstUnlike_b14 unR
      rw [le_n (by omega) (by omega)]
      by_cases g : X ≤ i
      · rw [brT g, if_pos ⟨by omega, by omega⟩]
      · rw [brF g, a4_hasRow r1 (by omega), brB', i_nI (by omega), if_neg (c := i = rc1 ∧ i = rc2) (by omega)]
        by_cases y : i < rc1
        · rw [if_pos (by omega), a4_hasRow r2 (by omega), brB', i_nI (by omega), if_neg (by omega)]
        · rw [if_neg (by omega)]
  | succ m ih =>
    intro f i h1 h2 h3 h4
    cases f with
    | zero => exact absurd h4 (by omega)
    | succ f =>
      show aX4_firstUnlike_b14 nv md Q (alX4_firstUnlike_b14 nv md Q f) j1 j2 (nI X) (nI i) A = Q (unR (if P i = true then ffS P m (i + 1) else i) rc1 rc2) A
      unfold aX4_firstUnlike_b14
      rw [le_n (by omega) (by omega), brF (by omega), a4_hasRow r1 (by omega), brB', i_nI (by omega), if_pos (by omega), a4_hasRow r2 (by omega), brB', i_nI (by omega), if_pos (by omega), hP i (by omega) (by omega), brD]
      by_cases z : P i = true
      · rw [if_pos z, if_pos z, e1, nI_add]
        exact ih f (i + 1) (by omega) (by omega) (by omega) (by omega)
      · rw [if_neg z, if_neg z]
        unfold unR
        rw [if_neg (by omega)]
theorem c_first {Q : Int32 → q_St → Prop} {P : Nat → Bool} {j1 j2 rc1 rc2 : Nat} (r1 : A j1 2 = nI rc1) (r2 : A j2 2 = nI rc2) (l1 : rc1 ≤ 40) (l2 : rc2 ≤ 40) (hP : ∀ i, i < rc1 → i < rc2 → ∀ Q : Int32 → q_St → Prop, aX4_isRowAlike nv md j1 j2 (nI i) Q A = Q (bI (P i)) A) : aX4_firstUnlike nv md j1 j2 Q A = Q (unR (ffS P (if rc1 < rc2 then rc1 else rc2) 0) rc1 rc2) A := by
  unfold aX4_firstUnlike
  rw [r1, r2]
  by_cases g : rc1 < rc2
  · rw [if_pos g, if_pos (by rw [lt_n (by omega) (by omega)]; exact g)]
    exact c_firstL r1 r2 l1 l2 (by omega) (by omega) (Or.inr rfl) hP rc1 q_fuel 0 (by omega) (by omega) (by omega) (by unfold q_fuel; omega)
  · rw [if_neg g, if_neg (by rw [lt_n (by omega) (by omega)]; exact g)]
    exact c_firstL r1 r2 l1 l2 (by omega) (by omega) (Or.inl rfl) hP rc2 q_fuel 0 (by omega) (by omega) (by omega) (by unfold q_fuel; omega)
theorem m_unlkL {Q : Int32 → q_St → Prop} {P : Nat → Bool} {v rc1 rc2 : Nat} (hv : v < 6) (r1 : A 143 v = nI rc1) (r2 : A 143 6 = nI rc2) (l1 : rc1 ≤ 40) (l2 : rc2 ≤ 40) (hP : ∀ i, i < rc1 → i < rc2 → ∀ Q : Int32 → q_St → Prop, aX8_isLike nv md (nI (40 * v + i)) (nI (240 + i)) Q A = Q (bI (P i)) A) : ∀ (m f i : Nat), m + i ≤ rc1 → m + i ≤ rc2 → (m + i = rc1 ∨ m + i = rc2) → m < f → alX8_unlike_b18 nv md Q f (nI v) (nI i) A = Q (unR (ffS P m i) rc1 rc2) A := by
  have h63 : ∀ i, i ≤ 40 → aX8_unlike_b63 nv md Q (nI v) (nI i) A = Q (unR i rc1 rc2) A := by
    intro i hi
    unfold aX8_unlike_b63 unR
    rw [in_n (by omega) (by omega), cl_nI (by omega), r1, show (6 : Int32) = nI 6 from rfl, in_n (by omega) (by omega), cl_nI (by omega), r2, eq_n (by omega) (by omega), eq_n (by omega) (by omega)]
    by_cases a : i = rc1
    · rw [brT' a]
      by_cases b : i = rc2
      · rw [brT' b, if_pos ⟨a, b⟩]
      · rw [brF' b, if_neg (fun z => b z.2)]
    · rw [brF' a, if_neg (fun z => a z.1)]
  intro m
  induction m with
  | zero =>
    intro f i h1 h2 h3 h4
    cases f with
    | zero => exact absurd h4 (by omega)
    | succ f =>
      show aX8_unlike_b18 nv md Q (alX8_unlike_b18 nv md Q f) (nI v) (nI i) A = Q (unR i rc1 rc2) A
      unfold aX8_unlike_b18
      rw [in_n (by omega) (by omega), cl_nI (by omega), r1, show (6 : Int32) = nI 6 from rfl, in_n (by omega) (by omega), cl_nI (by omega), r2, le_n (by omega) (by omega), le_n (by omega) (by omega), h63 i (by omega)]
      by_cases g : rc1 ≤ i
      · rw [brT g]
      · rw [brF g, brT (by omega)]
  | succ m ih =>
    intro f i h1 h2 h3 h4
    cases f with
    | zero => exact absurd h4 (by omega)
    | succ f =>
      show aX8_unlike_b18 nv md Q (alX8_unlike_b18 nv md Q f) (nI v) (nI i) A = Q (unR (if P i = true then ffS P m (i + 1) else i) rc1 rc2) A
      unfold aX8_unlike_b18
      rw [in_n (by omega) (by omega), cl_nI (by omega), r1, show (6 : Int32) = nI 6 from rfl, in_n (by omega) (by omega), cl_nI (by omega), r2, le_n (by omega) (by omega), le_n (by omega) (by omega), brF (by omega), brF (by omega), e40, n_ma, show (240 : Int32) = nI 240 from rfl, nI_add, hP i (by omega) (by omega), brD', h63 i (by omega)]
      by_cases z : P i = true
      · rw [if_pos z, if_pos z, e1, nI_add]
        exact ih f (i + 1) (by omega) (by omega) (by omega) (by omega)
      · rw [if_neg z, if_neg z]
/-- in a state where PART j stands in slot 6 and PART 64 + 5 v in slot v, ROWS are alike for class and model together -/
theorem like_eq {v j rc1 rc2 : Nat} (hv : v < 6) (p1 : ∀ i, i < rc1 → rRel A (64 + 5 * v) v i) (p2 : ∀ i, i < rc2 → rRel A j 6 i) (l1 : rc1 ≤ 40) (l2 : rc2 ≤ 40) : ∀ i, i < rc1 → i < rc2 → ∀ Q : Int32 → q_St → Prop, aX8_isLike nv md (nI (40 * v + i)) (nI (240 + i)) Q A = Q (bI (rowP A (64 + 5 * v) j i)) A := by
  intro i i1 i2 Q
  have q1 := p1 i i1
  have q2 := p2 i i2
  obtain ⟨-, -, -, -, -, -, -, -, -, n, n1, n2, -⟩ := id q1
  rw [m_like (n := n) (by omega) (by omega) n1 n2, rowP_like q1 q2 n1 n2]
theorem c_like {v j rc1 rc2 : Nat} (hv : v < 6) (r1 : A (64 + 5 * v) 2 = nI rc1) (r2 : A j 2 = nI rc2) (p1 : ∀ i, i < rc1 → ∃ n, n ≤ 8 ∧ A (64 + 5 * v + 3) i = nI n) (p2 : ∀ i, i < rc2 → ∃ n, n ≤ 8 ∧ A (j + 3) i = nI n) (l1 : rc1 ≤ 40) (l2 : rc2 ≤ 40) : ∀ i, i < rc1 → i < rc2 → ∀ Q : Int32 → q_St → Prop, aX4_isRowAlike nv md (64 + 5 * v) j (nI i) Q A = Q (bI (rowP A (64 + 5 * v) j i)) A := by
  intro i i1 i2 Q
  obtain ⟨n1, a1, a2⟩ := p1 i i1
  obtain ⟨n2, b1, b2⟩ := p2 i i2
  exact c_alike r1 r2 l1 l2 i1 i2 a2 b2 a1 b1
theorem keep94 {B : q_St} (h : ∀ q m, ¬ (94 ≤ q ∧ q ≤ 94 + 4) → B q m = A q m) : Keep A B := by
  intro i k hs
  refine h i k ?_
  intro e
  simp [scr] at hs
  omega
theorem row_n {nv nb : Nat} {D B : q_St} {v j rc : Nat} (S : SV nv nb D D) (hv : v < nv) (hrc : rcS nb D v rc) (hC : PrC nb D v j rc B) : ∀ i, i < rc → ∃ n, n ≤ 8 ∧ B (j + 3) i = nI n := by
  have h6 := S.1.1
  have h40 := S.1.2.1
  intro i hi
  obtain ⟨c0, c1, c2, c3, c4, c5, c6, c7, c8⟩ := hC.2 i hi
  refine ⟨_, ?_, c7⟩
  refine nS8 S ?_ ?_
  · unfold rwS
    by_cases z : emp D v nb = true
    · rw [if_pos z]; show 0 < 40; omega
    · rw [if_neg z]
      have hr := (hrc.2 (by simpa using z)).2 i hi
      show rbS nb D v i < 40
      omega
  · unfold rwS
    by_cases z : emp D v nb = true
    · rw [if_pos z]; intro u hu; exact absurd hu (by simp)
    · rw [if_neg z]
      have hr := (hrc.2 (by simpa using z)).2 i hi
      intro u hu
      have := rowS_src S hv hr hu
      omega
theorem PrC.congr {B : q_St} {v j rc : Nat} (h : PrC nb D v j rc A) (hB : ∀ q m, j ≤ q → q ≤ j + 4 → B q m = A q m) : PrC nb D v j rc B := by
  refine ⟨by rw [hB _ _ (by omega) (by omega)]; exact h.1, fun i hi => ?_⟩
  obtain ⟨c0, c1, c2, c3, c4, c5, c6, c7, c8⟩ := h.2 i hi
  refine ⟨?_, ?_, ?_, ?_, ?_, ?_, ?_, ?_, fun k w hk hw => ?_⟩
  · rw [hB _ _ (by omega) (by omega)]; exact c0
  · rw [hB _ _ (by omega) (by omega)]; exact c1
  · rw [hB _ _ (by omega) (by omega)]; exact c2
  · rw [hB _ _ (by omega) (by omega)]; exact c3
  · rw [hB _ _ (by omega) (by omega)]; exact c4
  · rw [hB _ _ (by omega) (by omega)]; exact c5
  · rw [hB _ _ (by omega) (by omega)]; exact c6
  · rw [hB _ _ (by omega) (by omega)]; exact c7
  · rw [hB _ _ (by omega) (by omega)]; exact c8 k w hk hw
theorem op_unlike (C : Corr nv md nb A) (x : Int32) : aX7_unlike nv md x (fun r A1 => aX8_unlike nv md x (fun r2 A2 => r = r2 ∧ Corr nv md nb A2) A1) A := by
  have h6 := C.1.1
  have S := sv_of C
  unfold aX7_unlike aX5_voiceAt
  simp only []
  rw [a5_partOf, brO, brP]
  by_cases h : 0 ≤ x.toInt ∧ x.toInt < nv
  · rw [if_pos h]
    by_cases hm : md x.toNatClampNeg = true
    · rw [if_pos ⟨h, hm⟩]
      obtain ⟨v, hv, rfl⟩ := i_of h.1 h.2 (by omega)
      rw [cl_nI (by omega)] at hm ⊢
      refine c_make S hv (by omega) (by omega) (fun B rc hrc hP hB => ?_)
      have K1 := keep94 hB
      have C1 := C.keep K1
      obtain ⟨-, rc1, l1, a1, a2, a3⟩ := (C1.2.2.2.2.2.2 v (by omega)).1 hm
      have l2 : rc ≤ 40 := Nat.le_trans (rcS_le hrc) S.1.2.1
      rw [c_first a1 hP.1 l1 l2 (c_like (by omega) a1 hP.1 (fun i hi => by
        obtain ⟨-, -, -, -, -, -, -, b7, -, n, n1, n2, -⟩ := a3 i hi
        exact ⟨n, n1, b7.trans n2⟩) (row_n S hv hrc hP) l1 l2)]
      unfold aX8_unlike
      rw [a8_isPart C1, brB, if_pos ⟨h, by rw [cl_nI (by omega)]; exact hm⟩]
      have SB : SV nv nb A B := S.keep (fun q m hq => hB q m (by omega)) (fun q m h1 h2 => hB q m (by omega)) (fun m _ => hB _ m (by omega))
      refine m_make SB hv (fun B2 rc2 hrc2 hM hK => ?_)
      have er := rcS_un hrc2 hrc
      subst er
      have C2 := C1.keep hK.keep
      obtain ⟨-, rc3, l3, d1, d2, d3⟩ := (C2.2.2.2.2.2.2 v (by omega)).1 hm
      have hBe : ∀ q, q < 143 → B2 q = B q := fun q hq => funext fun m => hK q m (by omega) (by omega) (by omega)
      have e13 : rc1 = rc3 := by
        rw [hBe _ (by omega), a1] at d1
        exact (nI_eq (by omega) (by omega)).mp d1
      subst e13
      have hP2 : PrC nb A v 94 rc2 B2 := hP.congr (fun q m h1 h2 => by rw [hBe q (by omega)])
      obtain ⟨rc4, l4, f1, f2, f3⟩ := pr_rel S hv hrc2 hP2 hM
      have e24 : rc2 = rc4 := by
        rw [hM.1] at f2
        exact (nI_eq (by omega) (by omega)).mp f2
      subst e24
      have eR : ∀ i, rowP B (64 + 5 * v) 94 i = rowP B2 (64 + 5 * v) 94 i := fun i => by
        unfold rowP
        rw [hBe (64 + 5 * v + 1) (by omega), hBe (94 + 1) (by omega), hBe (64 + 5 * v + 3) (by omega), hBe (94 + 3) (by omega), hBe (64 + 5 * v + 4) (by omega), hBe (94 + 4) (by omega)]
      have eL := fun m f i => m_unlkL (nv := nv) (md := md) (Q := fun r2 A2 => unR (ffS (rowP B (64 + 5 * v) 94) (if rc1 < rc2 then rc1 else rc2) 0) rc1 rc2 = r2 ∧ Corr nv md nb A2) (by omega : v < 6) d2 hM.1 l1 l2 (like_eq (nv := nv) (md := md) (by omega : v < 6) d3 f3 l1 l2) m f i
      refine (eL (if rc1 < rc2 then rc1 else rc2) q_fuel 0 (by split <;> omega) (by split <;> omega) (by split <;> omega) (by unfold q_fuel; split <;> omega)).mpr ⟨?_, C2⟩
      rw [ffS_congr _ _ (fun k _ _ => eR k)]
    · rw [if_neg (fun z => hm z.2)]
      unfold aX8_unlike
      rw [a8_isPart C, brB, if_neg (fun z => hm z.2)]
      exact ⟨rfl, C⟩
  · rw [if_neg h]
    unfold aX8_unlike
    rw [a8_isPart C, brB, if_neg (fun z => h z.1)]
    exact ⟨rfl, C⟩
end CUNLK
