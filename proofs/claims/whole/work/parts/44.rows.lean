theorem brP {c : Prop} [Decidable c] {md : Nat → Bool} {v : Nat} {X : Prop} {Y : Nat → Prop} : (((if c then pq md v else none) = none → X) ∧ (∀ a, (if c then pq md v else none) = some a → Y a)) = (if c ∧ md v = true then Y (64 + 5 * v) else X) := by
  by_cases h : c <;> by_cases g : md v = true <;> simp [h, g, pq]
section CROWS
variable {nv nb : Nat} {md : Nat → Bool} {Q : Int32 → q_St → Prop} {A : q_St}
theorem sub1 {n : Nat} (h : n < 2147483648) : (nI n - 1).toInt = (n : Int) - 1 := by rw [i_sub, i_nI h, L_1] <;> (rw [i_nI h, L_1]; omega)
theorem a4_hasRow {j rc : Nat} {x : Int32} (h : A j 2 = nI rc) (hr : rc < 2147483648) : aX4_hasRow nv md j x Q A = Q (bI (decide (0 ≤ x.toInt ∧ x.toInt < rc))) A := by
  unfold aX4_hasRow
  rw [h]
  simp only [i_lt, i_le, zr_0, zr_1, L_0]
  rw [i_nI hr]
  by_cases h1 : x.toInt < 0
  · rw [brT h1, decide_eq_false (by omega)]; rfl
  · by_cases h2 : (rc : Int) ≤ x.toInt
    · rw [brF h1, brT h2, decide_eq_false (by omega)]; rfl
    · rw [brF h1, brF h2, decide_eq_true (by omega)]; rfl
theorem a4_fig {j rc i w : Nat} (h : A j 2 = nI rc) (hr : rc ≤ 40) (hi : i < rc) (hw : w < 7) : aX4_figure nv md j (nI i) (nI w) Q A = Q (A (j + 1) (i * 7 + w)) A := by
  unfold aX4_figure
  rw [a4_hasRow h (by omega), i_nI (by omega), brB', if_pos (by omega)]
  simp only [i_lt, L_0, L_7]
  rw [i_nI (by omega), brF (by omega), brT (by omega), e7, n_am, in_n (by omega) (by omega), cl_nI (by omega)]
theorem a8_isPart (C : Corr nv md nb A) {x : Int32} : aX8_isPart nv md x Q A = Q (bI (decide ((0 ≤ x.toInt ∧ x.toInt < nv) ∧ md x.toNatClampNeg = true))) A := by
  obtain ⟨d1, d2, d3, d4, d5, d6, d7⟩ := C.1
  unfold aX8_isPart
  rw [a8_isVoice d4 d1, brB', zr_0, zr_1]
  by_cases h : 0 ≤ x.toInt ∧ x.toInt < nv
  · rw [if_pos h]
    obtain ⟨v, hv, rfl⟩ := i_of h.1 h.2 (by omega)
    rw [in_n (by omega) (by omega), cl_nI (by omega)]
    have h7 := C.2.2.2.2.2.2 v (by omega)
    by_cases g : md v = true
    · rw [brF (by rw [(h7.1 g).1]; decide), decide_eq_true ⟨h, g⟩]; rfl
    · rw [brT (h7.2 (by simpa using g)), decide_eq_false (fun z => g z.2)]; rfl
  · rw [if_neg h, decide_eq_false (fun z => h z.1)]; rfl
theorem a8_row (C : Corr nv md nb A) {x y z : Int32} : aX8_row nv md x y z Q A = if (0 ≤ x.toInt ∧ x.toInt < nv) ∧ md x.toNatClampNeg = true then (if 0 ≤ y.toInt ∧ y.toInt ≤ (A 143 x.toNatClampNeg - 1).toInt then ((z.toInt < 0 ∨ 6 < z.toInt → Q (-102) A) ∧ (z.toInt = 0 → vp_in (40 * x + y) 280 ∧ Q (A 144 (40 * x + y).toNatClampNeg) A) ∧ (z.toInt = 1 → vp_in (40 * x + y) 280 ∧ Q (A 145 (40 * x + y).toNatClampNeg) A) ∧ (z.toInt = 2 → vp_in (40 * x + y) 280 ∧ Q (A 146 (40 * x + y).toNatClampNeg) A) ∧ (z.toInt = 3 → vp_in (40 * x + y) 280 ∧ Q (A 147 (40 * x + y).toNatClampNeg) A) ∧ (z.toInt = 4 → vp_in (40 * x + y) 280 ∧ Q (A 148 (40 * x + y).toNatClampNeg) A) ∧ (z.toInt = 5 → vp_in (40 * x + y) 280 ∧ Q (A 150 (40 * x + y).toNatClampNeg) A) ∧ (z.toInt = 6 → vp_in (40 * x + y) 280 ∧ Q (A 149 (40 * x + y).toNatClampNeg) A)) else Q (-101) A) else Q (-101) A := by
  unfold aX8_row
  rw [a8_isPart C, brB']
  simp only [a8_in, brB, L_0]
  by_cases h : (0 ≤ x.toInt ∧ x.toInt < nv) ∧ md x.toNatClampNeg = true
  · rw [if_pos h, if_pos h]
    have hn := C.1.1
    have hv : vp_in x 7 := vp_in_iff.mpr ⟨by omega, by omega⟩
    simp only [hv, true_and]
  · rw [if_neg h, if_neg h]
theorem op_row (C : Corr nv md nb A) (x y z : Int32) : aX7_row nv md x y z (fun r A1 => aX8_row nv md x y z (fun r2 A2 => r = r2 ∧ Corr nv md nb A2) A1) A := by
  obtain ⟨d1, d2, d3, d4, d5, d6, d7⟩ := C.1
  unfold aX7_row
  rw [a5_partOf, brP]
  by_cases h : (0 ≤ x.toInt ∧ x.toInt < nv) ∧ md x.toNatClampNeg = true
  · rw [if_pos h]
    obtain ⟨⟨g1, g2⟩, hm⟩ := h
    obtain ⟨v, hv, rfl⟩ := i_of g1 g2 (by omega)
    rw [cl_nI (by omega)] at hm ⊢
    obtain ⟨-, rc, hrc, p1, p2, p3⟩ := (C.2.2.2.2.2.2 v (by omega)).1 hm
    rw [a4_hasRow p1 (by omega), brB]
    have e143 : (A 143 (nI v).toNatClampNeg - 1).toInt = (rc : Int) - 1 := by rw [cl_nI (by omega), p2]; exact sub1 (by omega)
    have hx : (0 ≤ (nI v).toInt ∧ (nI v).toInt < nv) ∧ md (nI v).toNatClampNeg = true := ⟨⟨g1, g2⟩, by rw [cl_nI (by omega)]; exact hm⟩
    by_cases h2 : 0 ≤ y.toInt ∧ y.toInt < rc
    · rw [if_pos h2, a7_within]
      simp only [brB, L_0, L_6]
      obtain ⟨i, hi, rfl⟩ := i_of h2.1 h2.2 (by omega)
      have en : (40 : Int32) * nI v + nI i = nI (40 * v + i) := n_ma 40 v i
      by_cases h3 : 0 ≤ z.toInt ∧ z.toInt ≤ 6
      · rw [if_pos h3]
        obtain ⟨w, hw, rfl⟩ := i_of (x := z) (N := 7) (by omega) (by omega) (by omega)
        rw [a4_fig p1 hrc hi hw, a8_row C, if_pos hx, if_pos (by rw [e143]; omega), en, in_n (by omega) (by omega), in_n (by omega) (by omega), in_n (by omega) (by omega), in_n (by omega) (by omega), in_n (by omega) (by omega), in_n (by omega) (by omega), in_n (by omega) (by omega), cl_nI (by omega), i_nI (by omega)]
        obtain ⟨r0, r1, r2, r3, r4, r5, r6, -⟩ := p3 i hi
        refine ⟨fun q => absurd q (by omega), fun q => ⟨?_, C⟩, fun q => ⟨?_, C⟩, fun q => ⟨?_, C⟩, fun q => ⟨?_, C⟩, fun q => ⟨?_, C⟩, fun q => ⟨?_, C⟩, fun q => ⟨?_, C⟩⟩
        · rw [show w = 0 by omega]; exact r0
        · rw [show w = 1 by omega]; exact r1
        · rw [show w = 2 by omega]; exact r2
        · rw [show w = 3 by omega]; exact r3
        · rw [show w = 4 by omega]; exact r4
        · rw [show w = 5 by omega]; exact r5
        · rw [show w = 6 by omega]; exact r6
      · rw [if_neg h3, a8_row C, if_pos hx, if_pos (by rw [e143]; omega)]
        refine ⟨fun q => ⟨rfl, C⟩, fun q => absurd q (by omega), fun q => absurd q (by omega), fun q => absurd q (by omega), fun q => absurd q (by omega), fun q => absurd q (by omega), fun q => absurd q (by omega), fun q => absurd q (by omega)⟩
    · rw [if_neg h2]; simp only []; rw [a8_row C, if_pos hx, if_neg (by rw [e143]; omega)]; exact ⟨rfl, C⟩
  · rw [if_neg h]; simp only []; rw [a8_row C, if_neg h]; exact ⟨rfl, C⟩
theorem a8_written (C : Corr nv md nb A) {v : Nat} (hv : v < nv) (hm : md v = true) {y z u : Int32} : aX8_written nv md (nI v) y z u Q A = if 0 ≤ y.toInt ∧ y.toInt ≤ (A 143 v - 1).toInt then (vp_in (40 * nI v + y) 280 ∧ (if 0 ≤ z.toInt ∧ z.toInt ≤ (A 150 (40 * nI v + y).toNatClampNeg - 1).toInt then (if 0 ≤ u.toInt ∧ u.toInt ≤ 3 then (vp_in (32 * (40 * nI v + y) + 4 * z + u) 8960 ∧ Q (A 151 (32 * (40 * nI v + y) + 4 * z + u).toNatClampNeg) A) else Q (-102) A) else Q (-101) A)) else Q (-101) A := by
  have hn := C.1.1
  unfold aX8_written
  rw [a8_isPart C, brB', cl_nI (by omega), if_pos ⟨by rw [i_nI (by omega)]; omega, hm⟩]
  simp only [a8_in, brB, brB', L_0, L_3]
  rw [in_n (by omega) (by omega)]
theorem op_written (C : Corr nv md nb A) (x y z u : Int32) : aX7_written nv md x y z u (fun r A1 => aX8_written nv md x y z u (fun r2 A2 => r = r2 ∧ Corr nv md nb A2) A1) A := by
  obtain ⟨d1, d2, d3, d4, d5, d6, d7⟩ := C.1
  unfold aX7_written
  rw [a5_partOf, brP]
  by_cases h : (0 ≤ x.toInt ∧ x.toInt < nv) ∧ md x.toNatClampNeg = true
  · rw [if_pos h]
    obtain ⟨⟨g1, g2⟩, hm⟩ := h
    obtain ⟨v, hv, rfl⟩ := i_of g1 g2 (by omega)
    rw [cl_nI (by omega)] at hm ⊢
    obtain ⟨-, rc, hrc, p1, p2, p3⟩ := (C.2.2.2.2.2.2 v (by omega)).1 hm
    rw [a4_hasRow p1 (by omega), brB']
    have e143 : (A 143 v - 1).toInt = (rc : Int) - 1 := by rw [p2]; exact sub1 (by omega)
    by_cases h2 : 0 ≤ y.toInt ∧ y.toInt < rc
    · rw [if_pos h2]
      obtain ⟨i, hi, rfl⟩ := i_of h2.1 h2.2 (by omega)
      have en : (40 : Int32) * nI v + nI i = nI (40 * v + i) := n_ma 40 v i
      obtain ⟨r0, r1, r2, r3, r4, r5, r6, r7, -, n, hn8, rn, rf⟩ := p3 i hi
      have T : TabS A (64 + 5 * v + 2) i n (fun k w => A 151 (32 * (40 * v + i) + (4 * k + w))) := ⟨by omega, by rw [show 64 + 5 * v + 2 + 1 = 64 + 5 * v + 3 by omega, r7]; exact rn, hn8, fun k w hk hw => by rw [show 64 + 5 * v + 2 + 2 = 64 + 5 * v + 4 by omega]; exact rf k w hk hw⟩
      rw [a3_sizeT T, a7_within, sub1 (by omega)]
      simp only [brB, L_0]
      by_cases h3 : 0 ≤ z.toInt ∧ z.toInt ≤ (n : Int) - 1
      · rw [if_pos h3, a7_within]
        simp only [brB, L_0, L_3]
        obtain ⟨k, hk, rfl⟩ := i_of (x := z) (N := n) (by omega) (by omega) (by omega)
        by_cases h4 : 0 ≤ u.toInt ∧ u.toInt ≤ 3
        · rw [if_pos h4]
          obtain ⟨w, hw, rfl⟩ := i_of (x := u) (N := 4) (by omega) (by omega) (by omega)
          have e2 : (32 : Int32) * nI (40 * v + i) + 4 * nI k + nI w = nI (32 * (40 * v + i) + (4 * k + w)) := by
            rw [e32, e4, pk_mul, pk_mul, nI_add, nI_add, Nat.add_assoc]
          rw [a3_figT T hk hw, a8_written C hv hm, if_pos (by rw [e143]; omega), en, in_n (by omega) (by omega), cl_nI (by omega), rn, sub1 (by omega), if_pos h3, if_pos h4, e2, in_n (by omega) (by omega), cl_nI (by omega)]
          exact ⟨rfl, C⟩
        · rw [if_neg h4, a8_written C hv hm, if_pos (by rw [e143]; omega), en, in_n (by omega) (by omega), cl_nI (by omega), rn, sub1 (by omega), if_pos h3, if_neg h4]
          exact ⟨rfl, C⟩
      · rw [if_neg h3, a8_written C hv hm, if_pos (by rw [e143]; omega), en, in_n (by omega) (by omega), cl_nI (by omega), rn, sub1 (by omega), if_neg h3]
        exact ⟨rfl, C⟩
    · rw [if_neg h2]; simp only []; rw [a8_written C hv hm, if_neg (by rw [e143]; omega)]; exact ⟨rfl, C⟩
  · rw [if_neg h]
    simp only []
    unfold aX8_written
    rw [a8_isPart C, brB', if_neg h]
    exact ⟨rfl, C⟩
end CROWS
