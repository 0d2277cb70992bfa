theorem pr_rel {nv nb : Nat} {D A : q_St} {v j rc : Nat} (S : SV nv nb D D) (hv : v < nv) (hrc : rcS nb D v rc) (hC : PrC nb D v j rc A) (hM : PrM nb D v rc A) : pRel A j 6 := by
  have h6 := S.1.1
  have h40 := S.1.2.1
  have hle := rcS_le hrc
  refine ⟨rc, by omega, hC.1, hM.1, fun i hi => ?_⟩
  obtain ⟨c0, c1, c2, c3, c4, c5, c6, c7, c8⟩ := hC.2 i hi
  obtain ⟨m0, m1, m2, m3, m4, m5, m6, m8⟩ := hM.2 i hi
  have hsrc : (rwS nb D v i).1 ≤ 3 ∧ (rwS nb D v i).2.1 < 40 ∧ ∀ u, (rwS nb D v i).2.2.2 = some u → u < 6 := by
    unfold rwS
    by_cases z : emp D v nb = true
    · rw [if_pos z]
      have hr := hrc.1 z
      refine ⟨by show 3 ≤ 3; omega, by show 0 < 40; omega, fun u hu => absurd hu (by simp)⟩
    · rw [if_neg z]
      have hr := (hrc.2 (by simpa using z)).2 i hi
      refine ⟨(rowS_len (D := D) (v := v) hr).2.2, by show rbS nb D v i < 40; omega, fun u hu => by have := rowS_src S hv hr hu; omega⟩
  have n8 := nS8 S (f := (rwS nb D v i).2.1) hsrc.2.1 hsrc.2.2
  have hul := ulS_le (fun q => wnO D v (rwS nb D v i).2.1 (rwS nb D v i).2.2.2 q 0) (nS D (rwS nb D v i).2.1 (rwS nb D v i).2.2.2)
  have hwd : 1 ≤ wdS D v (rwS nb D v i).1 (rwS nb D v i).2.1 (rwS nb D v i).2.2.2 ∧ wdS D v (rwS nb D v i).1 (rwS nb D v i).2.1 (rwS nb D v i).2.2.2 ≤ 20 := by
    unfold wdS baS
    split <;> split <;> (try split) <;> (try split) <;> omega
  refine ⟨c0.trans m0.symm, c1.trans m1.symm, c2.trans m2.symm, c3.trans m3.symm, c4.trans m4.symm, c5.trans m6.symm, c6.trans m5.symm, c7.trans m6.symm, ?_, nS D (rwS nb D v i).2.1 (rwS nb D v i).2.2.2, n8, m6, fun k w hk hw => (c8 k w hk hw).trans (m8 k w hk hw).symm⟩
  show 1 ≤ (A 147 (240 + i)).toInt ∧ (A 147 (240 + i)).toInt ≤ 20
  rw [m3, i_nI (by omega)]
  omega
/-- whether ROW i is alike in PARTS j1 and j2 -/
def rowP (A : q_St) (j1 j2 i : Nat) : Bool := alB (fun w => decide (A (j1 + 1) (i * 7 + w) = A (j2 + 1) (i * 7 + w))) 7 && alk (A (j1 + 3) i).toNatClampNeg (A (j2 + 3) i).toNatClampNeg (fun k w => A (j1 + 4) ((i * 8 + k) * 4 + w)) (fun k w => A (j2 + 4) ((i * 8 + k) * 4 + w))
def lkM (A : q_St) (a b n : Nat) : Bool := decide (A 144 a = A 144 b ∧ A 145 a = A 145 b ∧ A 146 a = A 146 b ∧ A 147 a = A 147 b ∧ A 148 a = A 148 b ∧ A 149 a = A 149 b ∧ A 150 a = A 150 b) && alB (fun k => decide (A 151 (32 * a + k) = A 151 (32 * b + k))) (4 * n)
theorem rowP_like {A : q_St} {j1 j2 p1 p2 i n : Nat} (h1 : rRel A j1 p1 i) (h2 : rRel A j2 p2 i) (h8 : n ≤ 8) (hn : A 150 (40 * p1 + i) = nI n) : rowP A j1 j2 i = lkM A (40 * p1 + i) (40 * p2 + i) n := by
  obtain ⟨a0, a1, a2, a3, a4, a5, a6, a7, -, n1, b1, b2, b3⟩ := h1
  obtain ⟨c0, c1, c2, c3, c4, c5, c6, c7, -, n2, d1, d2, d3⟩ := h2
  have en : n1 = n := by
    rw [hn] at b2
    exact ((nI_eq (by omega) (by omega)).mp b2).symm
  subst en
  rw [Bool.eq_iff_iff]
  unfold rowP lkM alk
  rw [Bool.and_eq_true, Bool.and_eq_true, Bool.and_eq_true, alB_iff, alB_iff, alB_iff, decide_eq_true_eq, decide_eq_true_eq, a7, c7, b2, d2, cl_nI (by omega), cl_nI (by omega)]
  simp only [decide_eq_true_eq]
  constructor
  · rintro ⟨f1, f2, f3⟩
    subst f2
    refine ⟨⟨?_, ?_, ?_, ?_, ?_, ?_, rfl⟩, fun k hk => ?_⟩
    · rw [← a0, ← c0]; exact f1 0 (by omega)
    · rw [← a1, ← c1]; exact f1 1 (by omega)
    · rw [← a2, ← c2]; exact f1 2 (by omega)
    · rw [← a3, ← c3]; exact f1 3 (by omega)
    · rw [← a4, ← c4]; exact f1 4 (by omega)
    · rw [← a6, ← c6]; exact f1 6 (by omega)
    · have hk4 := alB_iff.mp (f3 (k / 4) (by omega)) (k % 4) (by omega)
      rw [decide_eq_true_eq, b3 _ _ (by omega) (by omega), d3 _ _ (by omega) (by omega), show 4 * (k / 4) + k % 4 = k by omega] at hk4
      exact hk4
  · rintro ⟨⟨f0, f1, f2, f3, f4, f6, f5⟩, g⟩
    have en2 : n1 = n2 := (nI_eq (by omega) (by omega)).mp f5
    subst en2
    refine ⟨fun w hw => ?_, rfl, fun k hk => alB_iff.mpr fun w hw => ?_⟩
    · have hw7 : w = 0 ∨ w = 1 ∨ w = 2 ∨ w = 3 ∨ w = 4 ∨ w = 5 ∨ w = 6 := by omega
      rcases hw7 with e | e | e | e | e | e | e
      · rw [e, a0, c0]; exact f0
      · rw [e, a1, c1]; exact f1
      · rw [e, a2, c2]; exact f2
      · rw [e, a3, c3]; exact f3
      · rw [e, a4, c4]; exact f4
      · rw [e, a5, c5, b2, d2]
      · rw [e, a6, c6]; exact f6
    · rw [decide_eq_true_eq, b3 k w hk hw, d3 k w hk hw]
      exact g (4 * k + w) (by omega)
/-- the first place from i on, within m places, that is no P; else the one behind them -/
def ffS (P : Nat → Bool) : Nat → Nat → Nat
  | 0, i => i
  | m + 1, i => if P i = true then ffS P m (i + 1) else i
theorem ffS_le (P : Nat → Bool) : ∀ m i, i ≤ ffS P m i ∧ ffS P m i ≤ i + m := by
  intro m
  induction m with
  | zero => intro i; exact ⟨Nat.le_refl i, Nat.le_refl i⟩
  | succ m ih =>
    intro i
    show i ≤ (if P i = true then ffS P m (i + 1) else i) ∧ (if P i = true then ffS P m (i + 1) else i) ≤ i + (m + 1)
    have := ih (i + 1)
    split <;> omega
theorem ffS_congr {P R : Nat → Bool} : ∀ m i, (∀ k, i ≤ k → k < i + m → P k = R k) → ffS P m i = ffS R m i := by
  intro m
  induction m with
  | zero => intro i _; rfl
  | succ m ih =>
    intro i h
    show (if P i = true then ffS P m (i + 1) else i) = (if R i = true then ffS R m (i + 1) else i)
    rw [h i (by omega) (by omega), ih (i + 1) (fun k h1 h2 => h k (by omega) (by omega))]
section CLIKE
variable {nv nb : Nat} {md : Nat → Bool} {D A A' : q_St}
theorem c_alikeL {Q : Int32 → q_St → Prop} {j1 j2 i rc1 rc2 n1 n2 : Nat} {g1 g2 : Nat → Nat → Int32} (r1 : A j1 2 = nI rc1) (r2 : A j2 2 = nI rc2) (l1 : rc1 ≤ 40) (l2 : rc2 ≤ 40) (i1 : i < rc1) (i2 : i < rc2) (T1 : TabS A (j1 + 2) i n1 g1) (T2 : TabS A (j2 + 2) i n2 g2) : ∀ (f w : Nat), w ≤ 7 → 8 ≤ f + w → (∀ q, q < w → A (j1 + 1) (i * 7 + q) = A (j2 + 1) (i * 7 + q)) → alX4_isRowAlike_b2 nv md Q f j1 j2 (nI i) (nI w) A = Q (bI (alB (fun w => decide (A (j1 + 1) (i * 7 + w) = A (j2 + 1) (i * 7 + w))) 7 && alk n1 n2 g1 g2)) A := by
  intro f
  induction f with
  | zero => intro w h1 h2; exact absurd h2 (by omega)
  | succ f ih =>
    intro w h1 h2 hq
    show aX4_isRowAlike_b2 nv md Q (alX4_isRowAlike_b2 nv md Q f) j1 j2 (nI i) (nI w) A = _
    unfold aX4_isRowAlike_b2
    rw [e7, le_n (by omega) (by omega)]
    by_cases h : 7 ≤ w
    · have ha : alB (fun w => decide (A (j1 + 1) (i * 7 + w) = A (j2 + 1) (i * 7 + w))) 7 = true := alB_iff.mpr (fun k hk => decide_eq_true (hq k (by omega)))
      rw [brT h, a3_alike T1 T2, zr_b, ha, Bool.true_and]
    · rw [brF h, a4_fig r1 l1 i1 (by omega), a4_fig r2 l2 i2 (by omega)]
      by_cases z : A (j1 + 1) (i * 7 + w) = A (j2 + 1) (i * 7 + w)
      · rw [brT z, e1, nI_add]
        exact ih (w + 1) (by omega) (by omega) (fun q hq2 => by
          by_cases y : q = w
          · rw [y]; exact z
          · exact hq q (by omega))
      · have ha : alB (fun w => decide (A (j1 + 1) (i * 7 + w) = A (j2 + 1) (i * 7 + w))) 7 = false := by
          rw [Bool.eq_false_iff]
          intro y
          exact z (of_decide_eq_true (alB_iff.mp y w (by omega)))
        rw [brF z, zr_0, ha, Bool.false_and]; rfl
theorem c_alike {Q : Int32 → q_St → Prop} {j1 j2 i rc1 rc2 : Nat} (r1 : A j1 2 = nI rc1) (r2 : A j2 2 = nI rc2) (l1 : rc1 ≤ 40) (l2 : rc2 ≤ 40) (i1 : i < rc1) (i2 : i < rc2) {n1 n2 : Nat} (t1 : A (j1 + 3) i = nI n1) (t2 : A (j2 + 3) i = nI n2) (b1 : n1 ≤ 8) (b2 : n2 ≤ 8) : aX4_isRowAlike nv md j1 j2 (nI i) Q A = Q (bI (rowP A j1 j2 i)) A := by
  have e := c_alikeL (nv := nv) (md := md) (Q := Q) (n1 := n1) (n2 := n2) (g1 := fun k w => A (j1 + 4) ((i * 8 + k) * 4 + w)) (g2 := fun k w => A (j2 + 4) ((i * 8 + k) * 4 + w)) r1 r2 l1 l2 i1 i2 ⟨by omega, t1, b1, fun _ _ _ _ => rfl⟩ ⟨by omega, t2, b2, fun _ _ _ _ => rfl⟩ q_fuel 0 (by omega) (by unfold q_fuel; omega) (fun q hq => absurd hq (Nat.not_lt_zero q))
  unfold rowP
  rw [t1, t2, cl_nI (by omega), cl_nI (by omega)]
  exact e
theorem m_likeL {Q : Int32 → q_St → Prop} {a b n : Nat} (ha : a < 280) (hb : b < 280) (h8 : n ≤ 8) (hn : A 150 a = nI n) {is : Bool} : ∀ (f k : Nat), k ≤ 4 * n → 4 * n < f + k → alX8_isLike_b114 nv md Q f (nI a) (nI b) (bI (is && alB (fun k => decide (A 151 (32 * a + k) = A 151 (32 * b + k))) k)) (nI k) A = Q (bI (is && alB (fun k => decide (A 151 (32 * a + k) = A 151 (32 * b + k))) (4 * n))) A := by
  intro f
  induction f with
  | zero => intro k h1 h2; exact absurd h2 (by omega)
  | succ f ih =>
    intro k h1 h2
    show aX8_isLike_b114 nv md Q (alX8_isLike_b114 nv md Q f) (nI a) (nI b) (bI (is && alB (fun k => decide (A 151 (32 * a + k) = A 151 (32 * b + k))) k)) (nI k) A = _
    unfold aX8_isLike_b114 aX8_isLike_b162 aX8_isLike_b163
    rw [in_n (by omega) (by omega), cl_nI (by omega), hn, e4, pk_mul, le_n (by omega) (by omega), zr_b]
    by_cases h : 4 * n ≤ k
    · rw [brT h, show k = 4 * n by omega]
    · have ih1 := ih (k + 1) (by omega) (by omega)
      have es : alB (fun k => decide (A 151 (32 * a + k) = A 151 (32 * b + k))) (k + 1) = (alB (fun k => decide (A 151 (32 * a + k) = A 151 (32 * b + k))) k && decide (A 151 (32 * a + k) = A 151 (32 * b + k))) := rfl
      rw [brF h, brD', e32, n_ma, n_ma, in_n (by omega) (by omega), in_n (by omega) (by omega), cl_nI (by omega), cl_nI (by omega), e1, nI_add, ← ih1, es, ← Bool.and_assoc]
      by_cases z : (is && alB (fun k => decide (A 151 (32 * a + k) = A 151 (32 * b + k))) k) = true
      · rw [if_pos z, z, Bool.true_and]
        by_cases y : A 151 (32 * a + k) = A 151 (32 * b + k)
        · rw [brT' y, decide_eq_true y]; rfl
        · rw [brF' y, decide_eq_false y]; rfl
      · rw [if_neg z]
        have z2 : (is && alB (fun k => decide (A 151 (32 * a + k) = A 151 (32 * b + k))) k) = false := by simpa using z
        rw [z2, Bool.false_and]; rfl
theorem m_like {Q : Int32 → q_St → Prop} {a b n : Nat} (ha : a < 280) (hb : b < 280) (h8 : n ≤ 8) (hn : A 150 a = nI n) : aX8_isLike nv md (nI a) (nI b) Q A = Q (bI (lkM A a b n)) A := by
  have eL : ∀ is : Bool, alX8_isLike_b114 nv md Q q_fuel (nI a) (nI b) (bI is) (nI 0) A = Q (bI (is && alB (fun k => decide (A 151 (32 * a + k) = A 151 (32 * b + k))) (4 * n))) A := fun is => by
    have e := m_likeL (nv := nv) (md := md) (Q := Q) (A := A) ha hb h8 hn (is := is) q_fuel 0 (by omega) (by unfold q_fuel; omega)
    rw [show (is && alB (fun k => decide (A 151 (32 * a + k) = A 151 (32 * b + k))) 0) = is from Bool.and_true is] at e
    exact e
  have hf : ∀ c : Prop, [Decidable c] → ¬ c → Q (bI (decide c && alB (fun k => decide (A 151 (32 * a + k) = A 151 (32 * b + k))) (4 * n))) A = alX8_isLike_b114 nv md Q q_fuel (nI a) (nI b) 0 (nI 0) A := fun c _ hc => by
    rw [decide_eq_false hc, ← eL false]; rfl
  unfold aX8_isLike aX8_isLike_b109 aX8_isLike_b110 lkM
  have va : vp_in (nI a) 280 := in_nI ha (by omega)
  have vb : vp_in (nI b) 280 := in_nI hb (by omega)
  simp only [va, vb, true_and]
  rw [cl_nI (by omega), cl_nI (by omega)]
  by_cases c0 : A 144 a = A 144 b
  · rw [brT' c0]
    by_cases c1 : A 145 a = A 145 b
    · rw [brT' c1]
      by_cases c2 : A 146 a = A 146 b
      · rw [brT' c2]
        by_cases c3 : A 147 a = A 147 b
        · rw [brT' c3]
          by_cases c4 : A 148 a = A 148 b
          · rw [brT' c4]
            by_cases c5 : A 149 a = A 149 b
            · rw [brT' c5]
              by_cases c6 : A 150 a = A 150 b
              · rw [brT' c6]
                rw [decide_eq_true ⟨c0, c1, c2, c3, c4, c5, c6⟩]; exact eL true
              · rw [brF' c6]; exact (hf _ (fun z => c6 z.2.2.2.2.2.2)).symm
            · rw [brF' c5]; exact (hf _ (fun z => c5 z.2.2.2.2.2.1)).symm
          · rw [brF' c4]; exact (hf _ (fun z => c4 z.2.2.2.2.1)).symm
        · rw [brF' c3]; exact (hf _ (fun z => c3 z.2.2.2.1)).symm
      · rw [brF' c2]; exact (hf _ (fun z => c2 z.2.2.1)).symm
    · rw [brF' c1]; exact (hf _ (fun z => c1 z.2.1)).symm
  · rw [brF' c0]; exact (hf _ (fun z => c0 z.1)).symm
end CLIKE
