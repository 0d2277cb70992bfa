section CPGO
variable {nv nb : Nat} {md : Nat → Bool} {A A' : q_St} {W H rc : Nat} {np : Nat → Nat} {wd : Nat → Nat} {lr : Nat → Bool}
theorem op_pages (C : Corr nv md nb A) (hm : ∀ v, md v = true → v < nv) (x : Int32) : aX7_pages nv md x (fun r A1 => aX8_pages nv md x (fun r2 A2 => r = r2 ∧ Corr nv md nb A2) A1) A := by
  obtain ⟨W, H, np, E⟩ := env_of C hm
  unfold aX7_pages
  rw [a5_partOf, brP]
  by_cases h : (0 ≤ x.toInt ∧ x.toInt < nv) ∧ md x.toNatClampNeg = true
  · rw [if_pos h]
    obtain ⟨⟨g1, g2⟩, hmd⟩ := h
    have hn := C.1.1
    obtain ⟨v, hv, rfl⟩ := i_of g1 g2 (by omega)
    refine a7_pc E (by omega) (fun B K hP => ?_)
    simp only []
    unfold aX8_pages
    rw [a8_isPart (C.keep K), brB, if_pos ⟨⟨g1, g2⟩, hmd⟩]
    rw [cl_nI (by omega)] at hmd
    obtain ⟨rc, wd, lr, r2, r3⟩ := hP hmd
    refine a8_pc (E.keep K) (by omega) (r2.keep (by omega) K) r3.1 (fun B2 K2 hP2 => ?_)
    exact ⟨hP2.2.1.symm, (C.keep K).keep K2⟩
  · rw [if_neg h]
    simp only []
    unfold aX8_pages
    rw [a8_isPart C, brB, if_neg h]
    exact ⟨rfl, C⟩
theorem a8_pageX (C : Corr nv md nb A) (E : EnvB nv md W H np A) {v : Nat} (hv : v < nv) (hmd : md v = true) (R : RwM v wd lr rc A) (hn : pNp wd lr W H rc (np v)) {y z : Int32} {Q : Int32 → q_St → Prop} (hq : ∀ B : q_St, Keep A B → PgM wd lr W H rc (np v) B → if 0 ≤ y.toInt ∧ y.toInt < np v then ((z.toInt < 0 ∨ 4 < z.toInt → Q (-102) B) ∧ (z.toInt = 0 → Q (B 157 y.toNatClampNeg) B) ∧ (z.toInt = 1 → Q (B 158 y.toNatClampNeg) B) ∧ (z.toInt = 2 → Q (B 159 y.toNatClampNeg) B) ∧ (z.toInt = 3 → Q (B 160 y.toNatClampNeg) B) ∧ (z.toInt = 4 → Q (nI (bkN np v + 1 + bkN np v % 2) + y) B)) else Q (-101) B) : aX8_page nv md (nI v) y z Q A := by
  have h6 := C.1.1
  have hb := bkN_le (np := np) v (fun u _ => E.np_le u)
  have hle := E.np_le v
  unfold aX8_page aX8_lastNumber
  rw [a8_isPart C, brB, cl_nI (by omega), i_nI (by omega), if_pos ⟨by omega, hmd⟩]
  refine a8_lnL (by omega) _ (fun B K => ?_) _ 0 A (by omega) (by unfold q_fuel; omega) E Keep.rf
  rw [a8_odd (by omega)]
  refine a8_pc (E.keep K) (by omega) (R.keep (by omega) K) hn (fun B2 K2 hP => ?_)
  have hq2 := hq B2 (K.tr K2) hP
  rw [a8_in, hP.2.1, sub1 (by omega), L_0, brB]
  by_cases g : 0 ≤ y.toInt ∧ y.toInt < np v
  · rw [if_pos g] at hq2
    rw [if_pos (by omega)]
    obtain ⟨r, hr, rfl⟩ := i_of g.1 g.2 (by omega)
    rw [in_n (by omega) (by omega), in_n (by omega) (by omega), in_n (by omega) (by omega), in_n (by omega) (by omega)]
    rw [cl_nI (by omega)] at hq2 ⊢
    obtain ⟨q0, q1, q2, q3, q4, q5⟩ := hq2
    refine ⟨q0, q1, q2, q3, fun hz => ?_, q5⟩
    have := q4 hz
    rw [(hP.2.2 r hr).2.2.2] at this ⊢
    rw [brD']
    cases hb : p3 wd lr W H rc r with
    | true => rw [hb] at this; exact this
    | false => rw [hb] at this; exact this
  · rw [if_neg g] at hq2
    rw [if_neg (by omega)]
    exact hq2
theorem op_page (C : Corr nv md nb A) (hm : ∀ v, md v = true → v < nv) (x y z : Int32) : aX7_page nv md x y z (fun r A1 => aX8_page nv md x y z (fun r2 A2 => r = r2 ∧ Corr nv md nb A2) A1) A := by
  obtain ⟨W, H, np, E⟩ := env_of C hm
  unfold aX7_page
  rw [a5_partOf, brP]
  by_cases h : (0 ≤ x.toInt ∧ x.toInt < nv) ∧ md x.toNatClampNeg = true
  · rw [if_pos h]
    obtain ⟨⟨g1, g2⟩, hmd⟩ := h
    have h6 := C.1.1
    obtain ⟨v, hv, rfl⟩ := i_of g1 g2 (by omega)
    rw [cl_nI (by omega)] at hmd
    have hb := bkN_le (np := np) v (fun u _ => E.np_le u)
    have hle := E.np_le v
    refine a7_pc E (by omega) (fun B K hP => ?_)
    obtain ⟨rc, wd, lr, r2, r3⟩ := hP hmd
    have C1 := C.keep K
    have E1 := E.keep K
    have R1 := r2.keep (v := v) (by omega) K
    rw [a7_within, sub1 (by omega), L_0, brB]
    by_cases g : 0 ≤ y.toInt ∧ y.toInt < np v
    · rw [if_pos (by omega), a7_within, brB, L_0, L_4]
      obtain ⟨r, hr, rfl⟩ := i_of g.1 g.2 (by omega)
      by_cases gz : 0 ≤ z.toInt ∧ z.toInt ≤ 4
      · rw [if_pos gz]
        obtain ⟨w, hw, rfl⟩ := i_of (x := z) (N := 5) (by omega) (by omega) (by omega)
        rw [e4, eq_n (by omega) (by omega)]
        by_cases w4 : w = 4
        · rw [brT' w4]
          unfold aX7_lastNumberAhead aX7_nextOdd
          refine a7_lnL (by omega) _ (fun B1 K1 => ?_) _ 0 B (by omega) (by unfold q_fuel; omega) E1 Keep.rf
          refine a8_pageX (C1.keep K1) (E1.keep K1) hv hmd (R1.keep (by omega) K1) r3.1 (fun B2 K2 hP2 => ?_)
          rw [if_pos g, i_nI (n := w) (by omega)]
          refine ⟨fun q => absurd q (by omega), fun q => absurd q (by omega), fun q => absurd q (by omega), fun q => absurd q (by omega), fun q => absurd q (by omega), fun _ => ⟨?_, (C1.keep K1).keep K2⟩⟩
          rw [n_and _ (by omega)]
        · rw [brF' w4, a1_fig r3.2.1 hle hr (by omega)]
          refine a8_pageX C1 E1 hv hmd R1 r3.1 (fun B2 K2 hP2 => ?_)
          rw [if_pos g, i_nI (n := w) (by omega), cl_nI (by omega)]
          obtain ⟨c0, c1, c2, c3⟩ := r3.2.2 r hr
          obtain ⟨d0, d1, d2, d3⟩ := hP2.2.2 r hr
          have C2 := C1.keep K2
          refine ⟨fun q => absurd q (by omega), fun q => ⟨?_, C2⟩, fun q => ⟨?_, C2⟩, fun q => ⟨?_, C2⟩, fun q => ⟨?_, C2⟩, fun q => absurd q (by omega)⟩
          · rw [show w = 0 by omega, Nat.add_zero, d0]; exact c0
          · rw [show w = 1 by omega, d1]; exact c1
          · rw [show w = 2 by omega, d2]; exact c2
          · rw [show w = 3 by omega, d3]; exact c3
      · rw [if_neg gz]
        refine a8_pageX C1 E1 hv hmd R1 r3.1 (fun B2 K2 hP2 => ?_)
        rw [if_pos g]
        refine ⟨fun q => ⟨rfl, C1.keep K2⟩, fun q => absurd q (by omega), fun q => absurd q (by omega), fun q => absurd q (by omega), fun q => absurd q (by omega), fun q => absurd q (by omega)⟩
    · rw [if_neg (by omega)]
      refine a8_pageX C1 E1 hv hmd R1 r3.1 (fun B2 K2 hP2 => ?_)
      rw [if_neg g]
      exact ⟨rfl, C1.keep K2⟩
  · rw [if_neg h]
    simp only []
    unfold aX8_page
    rw [a8_isPart C, brB, if_neg h]
    exact ⟨rfl, C⟩
theorem Corr.pg (C : Corr nv md nb A) (h : cPg A') (hA : ∀ i k, ¬ (i = 0 ∧ 4 ≤ k ∧ k ≤ 5) → ¬ (i = 128 ∧ 22 ≤ k ∧ k ≤ 23) → A' i k = A i k) : Corr nv md nb A' := by
  obtain ⟨c1, c2, c3, c4, c5, c6, c7⟩ := C
  have hn := c1.1
  have hB : ∀ i, i ≠ 0 → i ≠ 128 → A' i = A i := fun i h1 h2 => funext fun k => hA i k (by omega) (by omega)
  exact ⟨cSc_congr (hB _ (by omega) (by omega)) (hA _ _ (by omega) (by omega)) (hA _ _ (by omega) (by omega)) (hA _ _ (by omega) (by omega)) c1, cTb_congr hn (fun i a b c => hB i (by omega) (by omega)) (fun i a b => hB i (by omega) (by omega)) c2, cNt_congr (fun i a b => hB i (by omega) (by omega)) c3, cMk_congr (hB _ (by omega) (by omega)) (hB _ (by omega) (by omega)) (hB _ (by omega) (by omega)) c4, cVc_congr hn (fun i a b c => hB i (by omega) (by omega)) (hB _ (by omega) (by omega)) (hB _ (by omega) (by omega)) c5, h, cPt_congr (fun i a b => hB i (by omega) (by omega)) (hB _ (by omega) (by omega)) (fun p _ => by rw [hB _ (by omega) (by omega)]) (fun q x a b _ => by rw [hB _ (by omega) (by omega)]) (fun x _ => by rw [hB _ (by omega) (by omega)]) c7⟩
/-- the model's half of what lay changes, told to the class's first -/
def layA (A : q_St) (x y : Int32) : q_St := q_u (q_u (q_u (q_u A 0 4 x) 0 5 y) 128 22 x) 128 23 y
theorem Corr.lay (C : Corr nv md nb A) {x y : Int32} (h1 : 8 ≤ x.toInt ∧ x.toInt ≤ 60) (h2 : 1 ≤ y.toInt ∧ y.toInt ≤ 12) : Corr nv md nb (layA A x y) := by
  refine C.pg ?_ (fun i k a b => ?_)
  · unfold layA cPg
    simp only [qa]
    simp
    omega
  · unfold layA
    simp only [qa]
    rw [if_neg (by omega), if_neg (by omega), if_neg (by omega), if_neg (by omega)]
/-- PAGES of the class read nothing of the model's -/
def EnC (nv : Nat) (md : Nat → Bool) (W H : Nat) (np : Nat → Nat) (A : q_St) : Prop :=
  (A 0 4 = nI W ∧ A 0 5 = nI H ∧ W ≤ 60 ∧ 1 ≤ H ∧ H ≤ 12) ∧
  (∀ v, v < nv → md v = true → ∃ rc wd lr, RwC (64 + 5 * v) wd lr rc A ∧ pNp wd lr W H rc (np v)) ∧
  (∀ v, md v = true → v < nv) ∧ (∀ v, md v = false → np v = 0) ∧ nv ≤ 6
theorem EnC.keep (E : EnC nv md W H np A) (K : Keep A A') : EnC nv md W H np A' := by
  obtain ⟨⟨a1, a2, a5, a6, a7⟩, b, c, d, e⟩ := E
  refine ⟨⟨by rw [K _ _ (by simp [scr])]; exact a1, by rw [K _ _ (by simp [scr])]; exact a2, a5, a6, a7⟩, fun v hv hm => ?_, c, d, e⟩
  obtain ⟨rc, wd, lr, r1, r3⟩ := b v hv hm
  exact ⟨rc, wd, lr, r1.keep (by omega) K, r3⟩
theorem a7_pcC (E : EnC nv md W H np A) {v : Nat} (hv : v < 6) {Q : Int32 → q_St → Prop} (hq : ∀ B : q_St, (∀ q m, q ≠ 5 → q ≠ 5 + 1 → q ≠ 5 + 2 → B q m = A q m) → Q (nI (np v)) B) : aX7_pageCountOf nv md (nI v) Q A := by
  unfold aX7_pageCountOf
  rw [a5_partOf, brP, cl_nI (by omega), i_nI (by omega)]
  by_cases h : md v = true
  · have hn := E.2.2.1 v h
    rw [if_pos ⟨by omega, h⟩]
    obtain ⟨rc, wd, lr, r1, r3⟩ := E.2.1 v hn h
    obtain ⟨a1, a2, a5, a6, a7⟩ := E.1
    rw [a1, a2]
    refine a1_arr (by omega) (by omega) r1 a5 a6 a7 (fun B g hB hk => ?_)
    have eg : g = np v := isNp_un hB.1 r3
    subst eg
    rw [hB.2.1]
    exact hq B hk
  · rw [if_neg (fun z => h z.2)]
    have := E.2.2.2.1 v (by simpa using h)
    have hq' := hq A (fun _ _ _ _ _ => rfl)
    rw [this] at hq'
    exact hq'
theorem a7_layC (Q : Int32 → q_St → Prop) (hq : ∀ B : q_St, (∀ q m, q ≠ 5 → q ≠ 5 + 1 → q ≠ 5 + 2 → B q m = A q m) → Q (nI (sm np 6)) B) : ∀ (f v : Nat) (B : q_St), v ≤ 6 → 7 ≤ f + v → EnC nv md W H np B → (∀ q m, q ≠ 5 → q ≠ 5 + 1 → q ≠ 5 + 2 → B q m = A q m) → alX7_lay_b39 nv md Q f (nI (sm np v)) (nI v) B := by
  intro f
  induction f with
  | zero => intro v B h1 h2; exact absurd h2 (by omega)
  | succ f ih =>
    intro v B h1 h2 E K
    show aX7_lay_b39 nv md Q (alX7_lay_b39 nv md Q f) (nI (sm np v)) (nI v) B
    unfold aX7_lay_b39
    rw [show (6 : Int32) = nI 6 from rfl, le_n (by omega) (by omega)]
    by_cases h : 6 ≤ v
    · rw [brT h, show v = 6 by omega]; exact hq B K
    · rw [brF h]
      refine a7_pcC E (by omega) (fun B2 K2 => ?_)
      rw [nI_add, e1, nI_add]
      exact ih (v + 1) B2 (by omega) (by omega) (E.keep (keep5 K2)) (fun q m c1 c2 c3 => (K2 q m c1 c2 c3).trans (K q m c1 c2 c3))
theorem sm_nv (h : ∀ v, nv ≤ v → np v = 0) (hn : nv ≤ 6) : sm np 6 = sm np nv := by
  have h1 := sm_add np nv (6 - nv)
  rw [show nv + (6 - nv) = 6 by omega] at h1
  rw [h1, sm_zero.mpr (fun b _ => h (nv + b) (by omega)), Nat.add_zero]
theorem op_lay (C : Corr nv md nb A) (hm : ∀ v, md v = true → v < nv) (x y : Int32) : aX7_lay nv md x y (fun r A1 => aX8_lay nv md x y (fun r2 A2 => r = r2 ∧ Corr nv md nb A2) A1) A := by
  unfold aX7_lay
  rw [a7_within, brB', L_8, L_60]
  by_cases h1 : 8 ≤ x.toInt ∧ x.toInt ≤ 60
  · rw [if_pos h1, a7_within, brB, L_1, L_12]
    by_cases h2 : 1 ≤ y.toInt ∧ y.toInt ≤ 12
    · rw [if_pos h2]
      have C1 := C.lay h1 h2
      obtain ⟨W, H, np, E⟩ := env_of C1 hm
      have hkz : ∀ v, nv ≤ v → np v = 0 := fun v hv => E.2.2.2.1 v (by cases hz : md v with | false => rfl | true => have := hm v hz; omega)
      unfold a_p
      have EC : EnC nv md W H np (q_u (q_u A 0 4 x) 0 5 y) := by
        obtain ⟨⟨a1, a2, a3, a4, a5, a6, a7⟩, b, c, d, e, f, g⟩ := E
        have o : ∀ q m, q ≠ 128 → layA A x y q m = q_u (q_u A 0 4 x) 0 5 y q m := fun q m hq => by unfold layA; rw [qn hq, qn hq]
        refine ⟨⟨by rw [← o _ _ (by omega)]; exact a1, by rw [← o _ _ (by omega)]; exact a2, a5, a6, a7⟩, fun v hv hmd => ?_, c, d, e⟩
        obtain ⟨rc, wd, lr, ⟨r1, r2, r3, r4, r5⟩, -, r6⟩ := b v hv hmd
        exact ⟨rc, wd, lr, ⟨r1, r2, by rw [← o _ _ (by omega)]; exact r3, fun i hi => by rw [← o _ _ (by omega)]; exact r4 i hi, fun i hi => by rw [← o _ _ (by omega), ← o _ _ (by omega)]; exact r5 i hi⟩, r6⟩
      refine a7_layC (np := np) _ (fun B hB => ?_) _ 0 (q_u (q_u A 0 4 x) 0 5 y) (by omega) (by unfold q_fuel; omega) EC (fun _ _ _ _ _ => rfl)
      unfold aX8_lay
      rw [a8_in, brB', L_8, L_60, if_pos h1, a8_in, brB, L_1, L_12, if_pos h2]
      unfold a_p
      have K : Keep (layA A x y) (q_u (q_u B 128 22 x) 128 23 y) := keep5 (fun q m c1 c2 c3 => by
        unfold layA
        rw [qa, qa, qa (q_u (q_u (q_u A 0 4 x) 0 5 y) 128 22 x), qa (q_u (q_u A 0 4 x) 0 5 y), hB q m c1 c2 c3])
      refine a8_layL (np := np) _ (fun B2 K2 => ?_) _ 0 _ (by omega) (by unfold q_fuel; have := C.1.1; omega) (E.keep K) K
      exact ⟨by rw [sm_nv hkz C.1.1], C1.keep K2⟩
    · rw [if_neg h2]
      simp only []
      unfold aX8_lay
      rw [a8_in, brB', L_8, L_60, if_pos h1, a8_in, brB, L_1, L_12, if_neg h2]
      exact ⟨rfl, C⟩
  · rw [if_neg h1]
    simp only []
    unfold aX8_lay
    rw [a8_in, brB', L_8, L_60, if_neg h1]
    exact ⟨rfl, C⟩
theorem op_count (C : Corr nv md nb A) (hm : ∀ v, md v = true → v < nv) (x : Int32) : aX7_count nv md x (fun r A1 => aX8_count nv md x (fun r2 A2 => r = r2 ∧ Corr nv md nb A2) A1) A := by
  obtain ⟨d1, d2, d3, d4, d5, d6, d7⟩ := C.1
  unfold aX7_count
  refine ⟨fun q => ?_, fun q => ?_, fun q => ?_, fun q => ?_, fun q => ?_, fun q => ?_, fun q => ?_⟩
  · unfold aX8_count
    exact ⟨fun _ => ⟨rfl, C⟩, fun z => absurd z (by omega), fun z => absurd z (by omega), fun z => absurd z (by omega), fun z => absurd z (by omega), fun z => absurd z (by omega), fun z => absurd z (by omega)⟩
  · unfold aX8_count
    exact ⟨fun z => absurd z (by omega), fun _ => ⟨by rw [d3, d4], C⟩, fun z => absurd z (by omega), fun z => absurd z (by omega), fun z => absurd z (by omega), fun z => absurd z (by omega), fun z => absurd z (by omega)⟩
  · unfold aX8_count
    exact ⟨fun z => absurd z (by omega), fun z => absurd z (by omega), fun _ => ⟨by rw [d5, d6], C⟩, fun z => absurd z (by omega), fun z => absurd z (by omega), fun z => absurd z (by omega), fun z => absurd z (by omega)⟩
  · unfold aX5_noteTotal
    have e := a5_noteTotalL C (Q := fun r A1 => aX8_count nv md x (fun r2 A2 => r = r2 ∧ Corr nv md nb A2) A1) q_fuel 0 (by omega) (by unfold q_fuel; omega)
    refine e.mpr ?_
    unfold aX8_count
    refine ⟨fun z => absurd z (by omega), fun z => absurd z (by omega), fun z => absurd z (by omega), fun _ => ?_, fun z => absurd z (by omega), fun z => absurd z (by omega), fun z => absurd z (by omega)⟩
    refine (a8_count2L C q_fuel 0 (by omega) (by unfold q_fuel; omega)).mpr ⟨?_, C⟩
    have := sm_split (fun x => (A 132 x).toNatClampNeg) 40 6
    rw [show 240 = 40 * 6 from rfl, this]
    rfl
  · unfold aX5_partTotal
    refine (a5_partTotalL hm d1 q_fuel 0 (by omega) (by unfold q_fuel; omega)).mpr ?_
    unfold aX8_count
    refine ⟨fun z => absurd z (by omega), fun z => absurd z (by omega), fun z => absurd z (by omega), fun z => absurd z (by omega), fun _ => ?_, fun z => absurd z (by omega), fun z => absurd z (by omega)⟩
    exact (a8_count3L C q_fuel 0 (by omega) (by unfold q_fuel; omega)).mpr ⟨rfl, C⟩
  · obtain ⟨W, H, np, E⟩ := env_of C hm
    unfold aX7_lastNumberAhead
    refine a7_lnL (n := 6) (by omega) _ (fun B1 K1 => ?_) _ 0 A (by omega) (by unfold q_fuel; omega) E Keep.rf
    unfold aX8_count
    refine ⟨fun z => absurd z (by omega), fun z => absurd z (by omega), fun z => absurd z (by omega), fun z => absurd z (by omega), fun z => absurd z (by omega), fun _ => ?_, fun z => absurd z (by omega)⟩
    unfold aX8_lastNumber
    exact a8_lnL (n := 6) (by omega) _ (fun B2 K2 => ⟨rfl, C.keep K2⟩) _ 0 B1 (by omega) (by unfold q_fuel; omega) (E.keep K1) K1
  · unfold aX2_total
    refine (a2_totalL q_fuel 0 (by omega) (by unfold q_fuel; omega)).mpr ?_
    unfold aX8_count
    refine ⟨fun z => absurd z (by omega), fun z => absurd z (by omega), fun z => absurd z (by omega), fun z => absurd z (by omega), fun z => absurd z (by omega), fun z => absurd z (by omega), fun _ => ?_⟩
    refine (a8_count5L q_fuel 0 (by omega) (by unfold q_fuel; omega)).mpr ⟨?_, C⟩
    rw [sm_congr (n := 200) (g := fun x => if A 137 x = 0 then 0 else 1) (fun m hm2 => ?_)]
    have hk := C.2.2.2.1 (m / 5) (m % 5) (by omega) (by omega)
    rw [show 5 * (m / 5) + m % 5 = m by omega, show m / 5 * 5 + m % 5 = m by omega] at hk
    rcases hk with ⟨k1, k2⟩ | ⟨k1, k2, k3, k4, k5, k6⟩
    · simp only [k1, k2, if_true]
    · have n1 : ¬ A 4 m = -100 := by rw [k2, i_eq, M_100]; omega
      have n2 : ¬ A 137 m = 0 := by rw [k1]; decide
      simp only [n1, n2, if_false]
end CPGO
