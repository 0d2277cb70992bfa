/-! numbers -/
def bI (b : Bool) : Int32 := if b = true then 1 else 0
theorem bI_nar (b : Bool) : narrow .boolean (.int (bI b)) = .int (bI b) := by cases b <;> rfl
theorem bI_0 (b : Bool) : (bI b = 0) = (b = false) := by cases b <;> simp [bI]
theorem bI_n0 (b : Bool) : (¬ bI b = 0) = (b = true) := by cases b <;> simp [bI]
theorem zr_0 (P : Prop) : q_zr 0 P = P := by
  have h : narrow .boolean (.int 0) = .int 0 := rfl
  simp [q_zr, h]
theorem zr_1 (P : Prop) : q_zr 1 P = P := by
  have h : narrow .boolean (.int 1) = .int 1 := rfl
  simp [q_zr, h]
theorem zr_b (b : Bool) (P : Prop) : q_zr (bI b) P = P := by simp [q_zr, bI_nar]
theorem i_lt (a b : Int32) : (a < b) = (a.toInt < b.toInt) := propext Int32.lt_iff_toInt_lt
theorem i_le (a b : Int32) : (a ≤ b) = (a.toInt ≤ b.toInt) := propext Int32.le_iff_toInt_le
theorem i_eq (a b : Int32) : (a = b) = (a.toInt = b.toInt) := propext Int32.toInt_inj.symm
theorem i_add {a b : Int32} (h1 : -2147483648 ≤ a.toInt + b.toInt) (h2 : a.toInt + b.toInt < 2147483648) : (a + b).toInt = a.toInt + b.toInt := by
  rw [Int32.toInt_add, Int.bmod_eq_of_le (by omega) (by omega)]
theorem i_sub {a b : Int32} (h1 : -2147483648 ≤ a.toInt - b.toInt) (h2 : a.toInt - b.toInt < 2147483648) : (a - b).toInt = a.toInt - b.toInt := by
  rw [Int32.toInt_sub, Int.bmod_eq_of_le (by omega) (by omega)]
theorem i_mul {a b : Int32} (h1 : -2147483648 ≤ a.toInt * b.toInt) (h2 : a.toInt * b.toInt < 2147483648) : (a * b).toInt = a.toInt * b.toInt := by
  rw [Int32.toInt_mul, Int.bmod_eq_of_le (by omega) (by omega)]
theorem i_nI {n : Nat} (h : n < 2147483648) : (nI n).toInt = (n : Int) := nI_toInt h
theorem i_clamp (x : Int32) : x.toNatClampNeg = x.toInt.toNat := rfl
theorem i_of {x : Int32} {N : Nat} (h0 : 0 ≤ x.toInt) (h1 : x.toInt < N) (hN : N < 2147483648) : ∃ n : Nat, n < N ∧ x = nI n := by
  refine ⟨x.toInt.toNat, by omega, ?_⟩
  rw [i_eq, i_nI (by omega)]
  omega
theorem in_nI {n N : Nat} (h : n < N) (hN : N < 2147483648) : vp_in (nI n) N := vp_in_nI h hN
theorem cl_nI {n : Nat} (h : n < 2147483648) : (nI n).toNatClampNeg = n := nI_clamp h
theorem brT {c A B : Prop} (h : c) : ((c → A) ∧ (¬ c → B)) = A := by simp [h]
theorem brF {c A B : Prop} (h : ¬ c) : ((c → A) ∧ (¬ c → B)) = B := by simp [h]
theorem brT' {c A B : Prop} (h : c) : ((¬ c → A) ∧ (c → B)) = B := by simp [h]
theorem brF' {c A B : Prop} (h : ¬ c) : ((¬ c → A) ∧ (c → B)) = A := by simp [h]
theorem L_0 : (0 : Int32).toInt = 0 := by decide
theorem L_1 : (1 : Int32).toInt = 1 := by decide
theorem L_2 : (2 : Int32).toInt = 2 := by decide
theorem L_3 : (3 : Int32).toInt = 3 := by decide
theorem L_4 : (4 : Int32).toInt = 4 := by decide
theorem L_5 : (5 : Int32).toInt = 5 := by decide
theorem L_6 : (6 : Int32).toInt = 6 := by decide
theorem L_7 : (7 : Int32).toInt = 7 := by decide
theorem L_8 : (8 : Int32).toInt = 8 := by decide
theorem L_10 : (10 : Int32).toInt = 10 := by decide
theorem L_12 : (12 : Int32).toInt = 12 := by decide
theorem L_16 : (16 : Int32).toInt = 16 := by decide
theorem L_19 : (19 : Int32).toInt = 19 := by decide
theorem L_31 : (31 : Int32).toInt = 31 := by decide
theorem L_32 : (32 : Int32).toInt = 32 := by decide
theorem L_40 : (40 : Int32).toInt = 40 := by decide
theorem L_41 : (41 : Int32).toInt = 41 := by decide
theorem L_47 : (47 : Int32).toInt = 47 := by decide
theorem L_48 : (48 : Int32).toInt = 48 := by decide
theorem L_60 : (60 : Int32).toInt = 60 := by decide
theorem L_127 : (127 : Int32).toInt = 127 := by decide
theorem L_200 : (200 : Int32).toInt = 200 := by decide
theorem L_240 : (240 : Int32).toInt = 240 := by decide
theorem L_280 : (280 : Int32).toInt = 280 := by decide
theorem L_999 : (999 : Int32).toInt = 999 := by decide
theorem M_1 : (-1 : Int32).toInt = -1 := by decide
theorem M_2 : (-2 : Int32).toInt = -2 := by decide
theorem M_6 : (-6 : Int32).toInt = -6 := by decide
theorem M_7 : (-7 : Int32).toInt = -7 := by decide
theorem M_12 : (-12 : Int32).toInt = -12 := by decide
theorem M_15 : (-15 : Int32).toInt = -15 := by decide
theorem M_100 : (-100 : Int32).toInt = -100 := by decide
theorem M_101 : (-101 : Int32).toInt = -101 := by decide
theorem M_102 : (-102 : Int32).toInt = -102 := by decide
theorem M_103 : (-103 : Int32).toInt = -103 := by decide
theorem M_104 : (-104 : Int32).toInt = -104 := by decide
section ALEAF
variable {nv : Nat} {md : Nat → Bool} {Q : Int32 → q_St → Prop} {A : q_St}
theorem a7_within (x lo hi : Int32) : aX7_isWithin nv md x lo hi Q A = Q (bI (decide (lo.toInt ≤ x.toInt ∧ x.toInt ≤ hi.toInt))) A := by
  unfold aX7_isWithin
  simp only [i_lt, zr_0, zr_1]
  by_cases h1 : x.toInt < lo.toInt
  · rw [brT h1, decide_eq_false (by omega)]; rfl
  · by_cases h2 : hi.toInt < x.toInt
    · rw [brF h1, brT h2, decide_eq_false (by omega)]; rfl
    · rw [brF h1, brF h2, decide_eq_true (by omega)]; rfl
theorem a8_in (x lo hi : Int32) : aX8_in nv md x lo hi Q A = Q (bI (decide (lo.toInt ≤ x.toInt ∧ x.toInt ≤ hi.toInt))) A := by
  unfold aX8_in
  simp only [i_lt, zr_0, zr_1]
  by_cases h1 : x.toInt < lo.toInt
  · rw [brT h1, decide_eq_false (by omega)]; rfl
  · by_cases h2 : hi.toInt < x.toInt
    · rw [brF h1, brT h2, decide_eq_false (by omega)]; rfl
    · rw [brF h1, brF h2, decide_eq_true (by omega)]; rfl
theorem a8_isVoice {x : Int32} {n : Nat} (hn : A 128 0 = nI n) (hb : n ≤ 6) : aX8_isVoice nv md x Q A = Q (bI (decide (0 ≤ x.toInt ∧ x.toInt < n))) A := by
  unfold aX8_isVoice
  rw [a8_in, zr_b, hn]
  have e : (nI n - 1).toInt = (n : Int) - 1 := by rw [i_sub, i_nI (by omega), L_1] <;> (rw [i_nI (by omega), L_1]; omega)
  congr 3
  rw [e, L_0, eq_iff_iff]
  omega
theorem a8_isBar {x : Int32} {n : Nat} (hn : A 128 1 = nI n) (hb : n ≤ 40) : aX8_isBar nv md x Q A = Q (bI (decide (0 ≤ x.toInt ∧ x.toInt < n))) A := by
  unfold aX8_isBar
  rw [a8_in, zr_b, hn]
  have e : (nI n - 1).toInt = (n : Int) - 1 := by rw [i_sub, i_nI (by omega), L_1] <;> (rw [i_nI (by omega), L_1]; omega)
  congr 3
  rw [e, L_0, eq_iff_iff]
  omega
theorem a5_hasBar {x : Int32} {n : Nat} (hn : A 1 3 = nI n) (hb : n ≤ 40) : aX5_hasBar nv md x Q A = Q (bI (decide (0 ≤ x.toInt ∧ x.toInt < n))) A := by
  unfold aX5_hasBar
  rw [hn]
  simp only [i_lt, i_le, zr_0, zr_1, L_0]
  rw [i_nI (by omega)]
  by_cases h1 : x.toInt < 0
  · rw [brT h1, decide_eq_false (by omega)]; rfl
  · by_cases h2 : (n : Int) ≤ x.toInt
    · rw [brF h1, brT h2, decide_eq_false (by omega)]; rfl
    · rw [brF h1, brF h2, decide_eq_true (by omega)]; rfl
theorem a3_size (i : Nat) (x : Int32) : aX3_size nv md i x Q A = Q (if 0 ≤ x.toInt ∧ x.toInt < 40 then A (i + 1) x.toInt.toNat else 0) A := by
  unfold aX3_size
  simp only [i_lt, i_le, L_0, L_40]
  by_cases h1 : x.toInt < 0
  · rw [brT h1, if_neg (by omega)]
  · by_cases h2 : 40 ≤ x.toInt
    · rw [brF h1, brT h2, if_neg (by omega)]
    · rw [brF h1, brF h2, if_pos (by omega)]
      have hv : vp_in x 40 := vp_in_iff.mpr ⟨by omega, by omega⟩
      exact propext ⟨fun h => h.2, fun h => ⟨hv, h⟩⟩
theorem a3_size_n (i : Nat) {b : Nat} (hb : b < 40) : aX3_size nv md i (nI b) Q A = Q (A (i + 1) b) A := by
  rw [a3_size, i_nI (by omega), if_pos (by omega)]; rfl
theorem a3_place (x y : Int32) : aX3_placeOf nv md x y Q A = Q ((x * 8 + y) * 4) A := rfl
end ALEAF
