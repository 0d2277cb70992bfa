theorem qn {A : q_St} {i j k m : Nat} {x : Int32} (h : j ≠ i) : q_u A i k x j m = A j m := by rw [q_u_ne _ _ _ h]
theorem qs {A : q_St} {i k m : Nat} {x : Int32} (h : m ≠ k) : q_u A i k x i m = A i m := by rw [q_u_self, pk_un h]
theorem qh {A : q_St} {i k : Nat} {x : Int32} : q_u A i k x i k = x := by rw [q_u_self, pk_us]
theorem qa (A : q_St) (i k : Nat) (x : Int32) (j m : Nat) : q_u A i k x j m = if j = i ∧ m = k then x else A j m := by
  by_cases h : j = i
  · subst h
    by_cases g : m = k
    · subst g; rw [qh, if_pos ⟨rfl, rfl⟩]
    · rw [qs g, if_neg (by omega)]
  · rw [qn h, if_neg (by omega)]
section COPS2
variable {nv nb : Nat} {md : Nat → Bool} {Q : Int32 → q_St → Prop} {A A' : q_St}
theorem a2_place (x y : Int32) : aX2_isPlace nv md x y Q A = Q (bI (decide (0 ≤ x.toInt ∧ x.toInt < 40 ∧ 0 ≤ y.toInt ∧ y.toInt < 5))) A := by
  unfold aX2_isPlace
  simp only [i_lt, i_le, zr_0, zr_1, L_0, L_40, L_5]
  by_cases h1 : x.toInt < 0
  · rw [brT h1, decide_eq_false (by omega)]; rfl
  · by_cases h2 : 40 ≤ x.toInt
    · rw [brF h1, brT h2, decide_eq_false (by omega)]; rfl
    · by_cases h3 : y.toInt < 0
      · rw [brF h1, brF h2, brT h3, decide_eq_false (by omega)]; rfl
      · by_cases h4 : 5 ≤ y.toInt
        · rw [brF h1, brF h2, brF h3, brT h4, decide_eq_false (by omega)]; rfl
        · rw [brF h1, brF h2, brF h3, brF h4, decide_eq_true (by omega)]; rfl
theorem a2_replace {b k : Nat} (hb : b < 40) (hk : k < 5) (x : Int32) : aX2_replace nv md (nI b) (nI k) x Q A = Q (A 4 (b * 5 + k)) (q_u A 4 (b * 5 + k) x) := by
  unfold aX2_replace
  rw [a2_place, i_nI (by omega), i_nI (by omega), decide_eq_true (by omega)]
  simp only [e5, n_am]
  rw [in_n (by omega) (by omega), a_s_n (by omega) (by omega), cl_nI (by omega)]
  simp [bI]
theorem a7_isMark (x y : Int32) : aX7_isMark nv md x y Q A = Q (bI (decide ((x.toInt = 0 ∧ -7 ≤ y.toInt ∧ y.toInt ≤ 7) ∨ (x.toInt ≠ 0 ∧ 0 ≤ x.toInt ∧ x.toInt ≤ 4 ∧ 0 ≤ y.toInt ∧ y.toInt ≤ 999)))) A := by
  unfold aX7_isMark
  simp only [a7_within, brB', zr_b, zr_0, zr_1, L_0, L_4, L_999, M_7, L_7]
  have hx : (x = 0) ↔ x.toInt = 0 := by rw [i_eq, L_0]
  by_cases h : x.toInt = 0
  · rw [brT' (hx.mpr h)]
    congr 3
    rw [eq_iff_iff]
    omega
  · rw [brF' (fun q => h (hx.mp q))]
    by_cases h1 : 0 ≤ x.toInt ∧ x.toInt ≤ 4
    · rw [if_pos h1]
      by_cases h2 : 0 ≤ y.toInt ∧ y.toInt ≤ 999
      · rw [if_pos h2, decide_eq_true (by omega)]; rfl
      · rw [if_neg h2, decide_eq_false (by omega)]; rfl
    · rw [if_neg h1, decide_eq_false (by omega)]; rfl
theorem a8_mark52 {b k : Nat} (hb : b < 40) (hk : k < 5) (x : Int32) : aX8_mark_b52 nv md Q (nI b) (nI k) x A = Q (if A 137 (5 * b + k) = 0 then -100 else A 138 (5 * b + k)) (q_u (q_u A 137 (5 * b + k) 1) 138 (5 * b + k) x) := by
  unfold aX8_mark_b52 aX8_mark_b81
  simp only [e5, n_ma]
  rw [in_n (by omega) (by omega), in_n (by omega) (by omega), cl_nI (by omega)]
  simp only [nar1]
  by_cases h : A 137 (5 * b + k) = 0
  · rw [brT h, if_pos h, a_s_n (by omega) (by omega), a_s_n (by omega) (by omega)]
  · rw [brF h, if_neg h, a_s_n (by omega) (by omega), a_s_n (by omega) (by omega)]
theorem op_mark (C : Corr nv md nb A) (x y z : Int32) : aX7_mark nv md x y z (fun r A1 => aX8_mark nv md x y z (fun r2 A2 => r = r2 ∧ Corr nv md nb A2) A1) A := by
  obtain ⟨d1, d2, d3, d4, d5, d6, d7⟩ := C.1
  unfold aX7_mark
  rw [a5_hasBar d5 d2]
  simp only [brB, a7_isMark]
  by_cases h1 : 0 ≤ x.toInt ∧ x.toInt < nb
  · rw [if_pos h1]
    obtain ⟨b, hb, rfl⟩ := i_of h1.1 h1.2 (by omega)
    by_cases h2 : (y.toInt = 0 ∧ -7 ≤ z.toInt ∧ z.toInt ≤ 7) ∨ (y.toInt ≠ 0 ∧ 0 ≤ y.toInt ∧ y.toInt ≤ 4 ∧ 0 ≤ z.toInt ∧ z.toInt ≤ 999)
    · rw [if_pos h2]
      obtain ⟨k, hk, rfl⟩ := i_of (x := y) (N := 5) (by omega) (by omega) (by omega)
      rw [i_nI (by omega)] at h2
      rw [a2_replace (by omega) hk]
      unfold aX8_mark
      rw [a8_isBar (n := nb) (by rw [q_u_ne _ _ _ (by omega)]; exact d6) d2]
      simp only [brB, brB', a8_in, L_0, L_4, L_999, M_7, L_7]
      rw [if_pos h1, if_pos (by rw [i_nI (by omega)]; omega)]
      have hfin : ∀ P : Prop, (A 4 (b * 5 + k) = (if (q_u A 4 (b * 5 + k) z) 137 (5 * b + k) = 0 then -100 else (q_u A 4 (b * 5 + k) z) 138 (5 * b + k)) ∧ Corr nv md nb (q_u (q_u (q_u A 4 (b * 5 + k) z) 137 (5 * b + k) 1) 138 (5 * b + k) z)) := by
        intro _
        rw [qn (by omega), qn (by omega)]
        refine ⟨?_, C.mk ?_ (fun i a c e => by rw [q_u_ne _ _ _ e, q_u_ne _ _ _ c, q_u_ne _ _ _ a])⟩
        · rcases C.2.2.2.1 b k (by omega) hk with q | q
          · rw [if_pos q.1]; exact q.2
          · rw [if_neg (by rw [q.1]; decide)]; exact q.2.1
        · intro b2 k2 hb2 hk2
          simp only [qa]
          by_cases e : b2 = b ∧ k2 = k
          · obtain ⟨rfl, rfl⟩ := e
            right
            exact ⟨by simp, by simp, hb, by simp; omega, by simp; omega, by simp; omega⟩
          · rw [if_neg (by omega), if_neg (by omega), if_neg (by omega), if_neg (by omega), if_neg (by omega), if_neg (by omega), if_neg (by omega), if_neg (by omega), if_neg (by omega)]
            exact C.2.2.2.1 b2 k2 hb2 hk2
      have hx : (nI k = 0) ↔ (k : Int) = 0 := by rw [i_eq, L_0, i_nI (by omega)]
      by_cases h3 : (k : Int) = 0
      · rw [brT' (hx.mpr h3), if_pos (by omega), a8_mark52 (by omega) hk]; exact hfin True
      · rw [brF' (fun q => h3 (hx.mp q)), if_pos (by omega), a8_mark52 (by omega) hk]; exact hfin True
    · rw [if_neg h2]
      unfold aX8_mark
      rw [a8_isBar d6 d2]
      simp only [brB, brB', a8_in, L_0, L_4, L_999, M_7, L_7]
      rw [if_pos h1]
      by_cases h4 : 0 ≤ y.toInt ∧ y.toInt ≤ 4
      · rw [if_pos h4]
        have hx : (y = 0) ↔ y.toInt = 0 := by rw [i_eq, L_0]
        by_cases h3 : y.toInt = 0
        · rw [brT' (hx.mpr h3), if_neg (by omega)]; (first | exact ⟨rfl, C⟩ | exact ⟨trivial, C⟩)
        · rw [brF' (fun q => h3 (hx.mp q)), if_neg (by omega)]; (first | exact ⟨rfl, C⟩ | exact ⟨trivial, C⟩)
      · rw [if_neg h4]; (first | exact ⟨rfl, C⟩ | exact ⟨trivial, C⟩)
  · rw [if_neg h1]
    unfold aX8_mark
    rw [a8_isBar d6 d2]
    simp only [brB]
    rw [if_neg h1]
    (first | exact ⟨rfl, C⟩ | exact ⟨trivial, C⟩)
theorem op_unmark (C : Corr nv md nb A) (x y : Int32) : aX7_unmark nv md x y (fun r A1 => aX8_unmark nv md x y (fun r2 A2 => r = r2 ∧ Corr nv md nb A2) A1) A := by
  obtain ⟨d1, d2, d3, d4, d5, d6, d7⟩ := C.1
  unfold aX7_unmark
  rw [a5_hasBar d5 d2]
  simp only [brB, a7_within, L_0, L_4]
  by_cases h1 : 0 ≤ x.toInt ∧ x.toInt < nb
  · rw [if_pos h1]
    obtain ⟨b, hb, rfl⟩ := i_of h1.1 h1.2 (by omega)
    by_cases h2 : 0 ≤ y.toInt ∧ y.toInt ≤ 4
    · rw [if_pos h2]
      obtain ⟨k, hk, rfl⟩ := i_of (x := y) (N := 5) (by omega) (by omega) (by omega)
      rw [a2_replace (by omega) hk]
      unfold aX8_unmark aX8_unmark_b49
      rw [a8_isBar (n := nb) (by rw [q_u_ne _ _ _ (by omega)]; exact d6) d2]
      simp only [brB, a8_in, L_0, L_4, nar0]
      rw [if_pos h1, if_pos h2]
      simp only [e5, n_ma]
      rw [in_n (by omega) (by omega), in_n (by omega) (by omega), cl_nI (by omega), a_s_n (by omega) (by omega), a_s_n (by omega) (by omega), qn (by omega), qn (by omega)]
      have hC : Corr nv md nb (q_u (q_u A 4 (b * 5 + k) (-100)) 137 (5 * b + k) 0) := by
        refine C.mk ?_ (fun i a c e => by rw [q_u_ne _ _ _ c, q_u_ne _ _ _ a])
        intro b2 k2 hb2 hk2
        simp only [qa]
        by_cases e : b2 = b ∧ k2 = k
        · obtain ⟨rfl, rfl⟩ := e
          left
          simp
        · rw [if_neg (by omega), if_neg (by omega), if_neg (by omega), if_neg (by omega), if_neg (by omega), if_neg (by omega)]
          exact C.2.2.2.1 b2 k2 hb2 hk2
      rcases C.2.2.2.1 b k (by omega) hk with q | q
      · rw [brT q.1]; exact ⟨q.2, hC⟩
      · rw [brF (by rw [q.1]; decide)]; exact ⟨q.2.1, hC⟩
    · rw [if_neg h2]
      unfold aX8_unmark
      rw [a8_isBar d6 d2]
      simp only [brB, a8_in, L_0, L_4]
      rw [if_pos h1, if_neg h2]
      (first | exact ⟨rfl, C⟩ | exact ⟨trivial, C⟩)
  · rw [if_neg h1]
    unfold aX8_unmark
    rw [a8_isBar d6 d2]
    simp only [brB]
    rw [if_neg h1]
    (first | exact ⟨rfl, C⟩ | exact ⟨trivial, C⟩)
end COPS2
