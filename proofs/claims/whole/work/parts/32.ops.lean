theorem brI {c : Prop} [Decidable c] {X Y : Prop} : ((c → X) ∧ (¬ c → Y)) = (if c then X else Y) := by by_cases h : c <;> simp [h]
theorem brI' {c : Prop} [Decidable c] {X Y : Prop} : ((¬ c → X) ∧ (c → Y)) = (if c then Y else X) := by by_cases h : c <;> simp [h]
theorem brB {c : Prop} [Decidable c] {X Y : Prop} : ((¬ bI (decide c) = 0 → X) ∧ (bI (decide c) = 0 → Y)) = (if c then X else Y) := by by_cases h : c <;> simp [h, bI]
theorem brB' {c : Prop} [Decidable c] {X Y : Prop} : ((bI (decide c) = 0 → X) ∧ (¬ bI (decide c) = 0 → Y)) = (if c then Y else X) := by by_cases h : c <;> simp [h, bI]
theorem brO {c : Prop} [Decidable c] {t : Nat} {X : Prop} {Y : Nat → Prop} : (((if c then some t else none) = none → X) ∧ (∀ a, (if c then some t else none) = some a → Y a)) = (if c then Y t else X) := by by_cases h : c <;> simp [h]
theorem nar0 : vp_nar .boolean 0 = 0 := rfl
theorem nar1 : vp_nar .boolean 1 = 1 := rfl
theorem a_s_n {i n k : Nat} {x : Int32} {A : q_St} {K : q_St → Prop} (h : k < n) (hn : n < 2147483648) : a_s i n (nI k) x A K = K (q_u A i k x) := by
  unfold a_s
  rw [cl_nI (by omega)]
  simp [in_nI h hn]
theorem in_n {n k : Nat} {P : Prop} (h : k < n) (hn : n < 2147483648) : (vp_in (nI k) n ∧ P) = P := by simp [in_nI h hn]
theorem n_ma (c v b : Nat) : nI c * nI v + nI b = nI (c * v + b) := by rw [pk_mul, nI_add]
theorem n_am (c v b : Nat) : nI v * nI c + nI b = nI (v * c + b) := by rw [pk_mul, nI_add]
theorem e5 : (5 : Int32) = nI 5 := rfl
theorem e40 : (40 : Int32) = nI 40 := rfl
theorem e8 : (8 : Int32) = nI 8 := rfl
theorem e4 : (4 : Int32) = nI 4 := rfl
theorem e7 : (7 : Int32) = nI 7 := rfl
theorem e32 : (32 : Int32) = nI 32 := rfl
theorem e1 : (1 : Int32) = nI 1 := rfl
theorem e0 : (0 : Int32) = nI 0 := rfl
section COPS
variable {nv nb : Nat} {md : Nat → Bool} {Q : Int32 → q_St → Prop} {A A' : q_St}
theorem Corr.sc (C : Corr nv md nb A) (h : cSc nv nb A') (hA : ∀ i, i ≠ 1 → i ≠ 128 → A' i = A i) (h22 : A' 128 22 = A 128 22) (h23 : A' 128 23 = A 128 23) : Corr nv md nb A' := by
  obtain ⟨c1, c2, c3, c4, c5, c6, c7⟩ := C
  have hn := c1.1
  exact ⟨h, cTb_congr hn (fun i a b c => hA i (by omega) (by omega)) (fun i a b => hA i (by omega) (by omega)) c2, cNt_congr (fun i a b => hA i (by omega) (by omega)) c3, cMk_congr (hA _ (by omega) (by omega)) (hA _ (by omega) (by omega)) (hA _ (by omega) (by omega)) c4, cVc_congr hn (fun i a b c => hA i (by omega) (by omega)) (hA _ (by omega) (by omega)) (hA _ (by omega) (by omega)) c5, cPg_congr (hA _ (by omega) (by omega)) h22 h23 c6, cPt_congr (fun i a b => hA i (by omega) (by omega)) (hA _ (by omega) (by omega)) (fun p _ => by rw [hA _ (by omega) (by omega)]) (fun q x a b _ => by rw [hA _ (by omega) (by omega)]) (fun x _ => by rw [hA _ (by omega) (by omega)]) c7⟩
theorem Corr.vc (C : Corr nv md nb A) (h : cVc nv A') (hA : ∀ i, ¬ (16 ≤ i ∧ i < 40 ∧ i % 4 = 0) → i ≠ 139 → i ≠ 140 → A' i = A i) : Corr nv md nb A' := by
  obtain ⟨c1, c2, c3, c4, c5, c6, c7⟩ := C
  have hn := c1.1
  exact ⟨cSc_congr (hA _ (by omega) (by omega) (by omega)) (by rw [hA _ (by omega) (by omega) (by omega)]) (by rw [hA _ (by omega) (by omega) (by omega)]) (by rw [hA _ (by omega) (by omega) (by omega)]) c1, cTb_congr hn (fun i a b c => hA i (by omega) (by omega) (by omega)) (fun i a b => hA i (by omega) (by omega) (by omega)) c2, cNt_congr (fun i a b => hA i (by omega) (by omega) (by omega)) c3, cMk_congr (hA _ (by omega) (by omega) (by omega)) (hA _ (by omega) (by omega) (by omega)) (hA _ (by omega) (by omega) (by omega)) c4, h, cPg_congr (hA _ (by omega) (by omega) (by omega)) (by rw [hA _ (by omega) (by omega) (by omega)]) (by rw [hA _ (by omega) (by omega) (by omega)]) c6, cPt_congr (fun i a b => hA i (by omega) (by omega) (by omega)) (hA _ (by omega) (by omega) (by omega)) (fun p _ => by rw [hA _ (by omega) (by omega) (by omega)]) (fun q x a b _ => by rw [hA _ (by omega) (by omega) (by omega)]) (fun x _ => by rw [hA _ (by omega) (by omega) (by omega)]) c7⟩
theorem Corr.mk (C : Corr nv md nb A) (h : cMk nb A') (hA : ∀ i, i ≠ 4 → i ≠ 137 → i ≠ 138 → A' i = A i) : Corr nv md nb A' := by
  obtain ⟨c1, c2, c3, c4, c5, c6, c7⟩ := C
  have hn := c1.1
  exact ⟨cSc_congr (hA _ (by omega) (by omega) (by omega)) (by rw [hA _ (by omega) (by omega) (by omega)]) (by rw [hA _ (by omega) (by omega) (by omega)]) (by rw [hA _ (by omega) (by omega) (by omega)]) c1, cTb_congr hn (fun i a b c => hA i (by omega) (by omega) (by omega)) (fun i a b => hA i (by omega) (by omega) (by omega)) c2, cNt_congr (fun i a b => hA i (by omega) (by omega) (by omega)) c3, h, cVc_congr hn (fun i a b c => hA i (by omega) (by omega) (by omega)) (hA _ (by omega) (by omega) (by omega)) (hA _ (by omega) (by omega) (by omega)) c5, cPg_congr (hA _ (by omega) (by omega) (by omega)) (by rw [hA _ (by omega) (by omega) (by omega)]) (by rw [hA _ (by omega) (by omega) (by omega)]) c6, cPt_congr (fun i a b => hA i (by omega) (by omega) (by omega)) (hA _ (by omega) (by omega) (by omega)) (fun p _ => by rw [hA _ (by omega) (by omega) (by omega)]) (fun q x a b _ => by rw [hA _ (by omega) (by omega) (by omega)]) (fun x _ => by rw [hA _ (by omega) (by omega) (by omega)]) c7⟩
theorem Corr.tb (C : Corr nv md nb A) (h : cTb nv nb A') (h' : cNt A') (hA : ∀ i, ¬ (16 ≤ i ∧ i < 40 ∧ 2 ≤ i % 4) → ¬ (132 ≤ i ∧ i ≤ 136) → A' i = A i) : Corr nv md nb A' := by
  obtain ⟨c1, c2, c3, c4, c5, c6, c7⟩ := C
  have hn := c1.1
  exact ⟨cSc_congr (hA _ (by omega) (by omega)) (by rw [hA _ (by omega) (by omega)]) (by rw [hA _ (by omega) (by omega)]) (by rw [hA _ (by omega) (by omega)]) c1, h, h', cMk_congr (hA _ (by omega) (by omega)) (hA _ (by omega) (by omega)) (hA _ (by omega) (by omega)) c4, cVc_congr hn (fun i a b c => hA i (by omega) (by omega)) (hA _ (by omega) (by omega)) (hA _ (by omega) (by omega)) c5, cPg_congr (hA _ (by omega) (by omega)) (by rw [hA _ (by omega) (by omega)]) (by rw [hA _ (by omega) (by omega)]) c6, cPt_congr (fun i a b => hA i (by omega) (by omega)) (hA _ (by omega) (by omega)) (fun p _ => by rw [hA _ (by omega) (by omega)]) (fun q x a b _ => by rw [hA _ (by omega) (by omega)]) (fun x _ => by rw [hA _ (by omega) (by omega)]) c7⟩
theorem a7_cueing (x : Int32) : aX7_cueing nv md x Q A = if 1 ≤ x.toInt ∧ x.toInt ≤ 40 then Q (A 1 4) (q_u A 1 4 x) else Q (-102) A := by
  unfold aX7_cueing; rw [a7_within]; simp only [brB, L_1, L_40, a_p]
theorem a8_cueing (x : Int32) : aX8_cueing nv md x Q A = if 1 ≤ x.toInt ∧ x.toInt ≤ 40 then Q (A 128 11) (q_u A 128 11 x) else Q (-102) A := by
  unfold aX8_cueing; rw [a8_in]; simp only [brB, L_1, L_40, a_p]
theorem op_cueing (C : Corr nv md nb A) (x : Int32) : aX7_cueing nv md x (fun r A1 => aX8_cueing nv md x (fun r2 A2 => r = r2 ∧ Corr nv md nb A2) A1) A := by
  rw [a7_cueing]
  obtain ⟨d1, d2, d3, d4, d5, d6, d7⟩ := C.1
  split
  · next h =>
    rw [a8_cueing, if_pos h]
    refine ⟨by rw [q_u_ne _ _ _ (by omega)]; exact d7, C.sc ⟨d1, d2, ?_, ?_, ?_, ?_, ?_⟩ (fun i a b => by rw [q_u_ne _ _ _ b, q_u_ne _ _ _ a]) ?_ ?_⟩
    · rw [q_u_ne _ _ _ (by omega), q_u_self, pk_un (by omega)]; exact d3
    · rw [q_u_self, pk_un (by omega), q_u_ne _ _ _ (by omega)]; exact d4
    · rw [q_u_ne _ _ _ (by omega), q_u_self, pk_un (by omega)]; exact d5
    · rw [q_u_self, pk_un (by omega), q_u_ne _ _ _ (by omega)]; exact d6
    · rw [q_u_self, pk_us, q_u_ne _ _ _ (by omega), q_u_self, pk_us]
    · rw [q_u_self, pk_un (by omega), q_u_ne _ _ _ (by omega)]
    · rw [q_u_self, pk_un (by omega), q_u_ne _ _ _ (by omega)]
  · next h => rw [a8_cueing, if_neg h]; exact ⟨rfl, C⟩
theorem a7_instr (x y z : Int32) : aX7_instrument nv md x y z Q A = if 0 ≤ x.toInt ∧ x.toInt < nv then (if -6 ≤ y.toInt ∧ y.toInt ≤ 6 then (if -2 ≤ z.toInt ∧ z.toInt ≤ 2 then Q 1 (q_u (q_u A (16 + 4 * x.toNatClampNeg) 2 y) (16 + 4 * x.toNatClampNeg) 3 z) else Q (-102) A) else Q (-102) A) else Q (-101) A := by
  unfold aX7_instrument aX5_voiceAt
  simp only [brO, a7_within, brB, brB', M_6, L_6, M_2, L_2, a_p]
theorem a8_instr {x y z : Int32} {n : Nat} (hn : A 128 0 = nI n) (h6 : n ≤ 6) : aX8_instrument nv md x y z Q A = if 0 ≤ x.toInt ∧ x.toInt < n then (if -6 ≤ y.toInt ∧ y.toInt ≤ 6 then (if -2 ≤ z.toInt ∧ z.toInt ≤ 2 then Q 1 (q_u (q_u A 139 x.toNatClampNeg y) 140 x.toNatClampNeg z) else Q (-102) A) else Q (-102) A) else Q (-101) A := by
  unfold aX8_instrument
  rw [a8_isVoice hn h6]
  simp only [a8_in, brB, brB', M_6, L_6, M_2, L_2]
  by_cases h : 0 ≤ x.toInt ∧ x.toInt < n
  · rw [if_pos h, if_pos h]
    have hv : vp_in x 6 := vp_in_iff.mpr ⟨by omega, by omega⟩
    simp [a_s, hv]
  · rw [if_neg h, if_neg h]
theorem op_instr (C : Corr nv md nb A) (x y z : Int32) : aX7_instrument nv md x y z (fun r A1 => aX8_instrument nv md x y z (fun r2 A2 => r = r2 ∧ Corr nv md nb A2) A1) A := by
  rw [a7_instr]
  obtain ⟨d1, d2, d3, d4, d5, d6, d7⟩ := C.1
  by_cases h1 : 0 ≤ x.toInt ∧ x.toInt < nv
  · by_cases h2 : -6 ≤ y.toInt ∧ y.toInt ≤ 6
    · by_cases h3 : -2 ≤ z.toInt ∧ z.toInt ≤ 2
      · rw [if_pos h1, if_pos h2, if_pos h3]
        obtain ⟨v, hv, rfl⟩ := i_of h1.1 h1.2 (by omega)
        rw [cl_nI (by omega)]
        rw [a8_instr (n := nv) (by rw [q_u_ne _ _ _ (by omega), q_u_ne _ _ _ (by omega)]; exact d4) d1, if_pos h1, if_pos h2, if_pos h3, cl_nI (by omega)]
        refine ⟨rfl, C.vc ?_ (fun i a b c => by rw [q_u_ne _ _ _ (by omega), q_u_ne _ _ _ (by omega), q_u_ne _ _ _ (by omega), q_u_ne _ _ _ (by omega)])⟩
        obtain ⟨f1, f2, f3⟩ := C.2.2.2.2.1
        have k139 : ∀ u, (q_u (q_u (q_u (q_u A (16 + 4 * v) 2 y) (16 + 4 * v) 3 z) 139 v y) 140 v z) 139 u = if u = v then y else A 139 u := by
          intro u
          rw [q_u_ne _ _ _ (by omega), q_u_self, q_u_ne _ _ _ (by omega), q_u_ne _ _ _ (by omega)]
          by_cases e : u = v
          · rw [if_pos e, e, pk_us]
          · rw [if_neg e, pk_un e]
        have k140 : ∀ u, (q_u (q_u (q_u (q_u A (16 + 4 * v) 2 y) (16 + 4 * v) 3 z) 139 v y) 140 v z) 140 u = if u = v then z else A 140 u := by
          intro u
          rw [q_u_self, q_u_ne _ _ _ (by omega), q_u_ne _ _ _ (by omega), q_u_ne _ _ _ (by omega)]
          by_cases e : u = v
          · rw [if_pos e, e, pk_us]
          · rw [if_neg e, pk_un e]
        refine ⟨fun u hu => ?_, fun u hu => ?_, fun u hu hu6 => ?_⟩
        · rw [k139, k140, q_u_ne _ _ _ (by omega), q_u_ne _ _ _ (by omega)]
          by_cases e : u = v
          · subst e
            rw [if_pos rfl, if_pos rfl, q_u_self, pk_un (by omega), pk_un (by omega), pk_us, q_u_self, pk_un (by omega), pk_us]
            exact ⟨(f1 u hu).1, rfl, rfl⟩
          · rw [if_neg e, if_neg e, q_u_ne _ _ _ (by omega), q_u_ne _ _ _ (by omega)]
            exact f1 u hu
        · rw [k139, k140]
          by_cases e : u = v
          · rw [if_pos e, if_pos e]; omega
          · rw [if_neg e, if_neg e]; exact f2 u hu
        · rw [k139, k140, if_neg (by omega), if_neg (by omega)]; exact f3 u hu hu6
      · rw [if_pos h1, if_pos h2, if_neg h3, a8_instr d4 d1, if_pos h1, if_pos h2, if_neg h3]; exact ⟨rfl, C⟩
    · rw [if_pos h1, if_neg h2, a8_instr d4 d1, if_pos h1, if_neg h2]; exact ⟨rfl, C⟩
  · rw [if_neg h1, a8_instr d4 d1, if_neg h1]; exact ⟨rfl, C⟩
end COPS
