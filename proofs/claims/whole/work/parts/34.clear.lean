section CCLR
variable {nv nb : Nat} {md : Nat → Bool} {A A' : q_St}
/-- NoteTable.clearFrom -/
theorem a3_clearL {Q : q_St → Prop} {i e : Nat} (he : e ≤ 40) : ∀ (n s : Nat) (A : q_St), s ≤ 41 → 42 ≤ n + s → (∀ A' : q_St, (∀ q m, A' q m = if q = i + 1 ∧ s ≤ m ∧ m < e then 0 else A q m) → Q A') → alX3_clearFrom_b6 nv md Q n i (nI e) (nI s) A := by
  intro n
  induction n with
  | zero =>
    intro s A hs hn hq
    exact absurd hn (by omega)
  | succ n ih =>
    intro s A hs hn hq
    show aX3_clearFrom_b6 nv md Q (alX3_clearFrom_b6 nv md Q n) i (nI e) (nI s) A
    unfold aX3_clearFrom_b6
    rw [i_le, i_le, i_nI (by omega), i_nI (by omega), L_40]
    by_cases h1 : (e : Int) ≤ s
    · rw [brT h1]
      exact hq A (fun q m => by rw [if_neg (by omega)])
    · rw [brF h1, brF (by omega), a_s_n (by omega) (by omega)]
      simp only [e1, nI_add]
      refine ih (s + 1) _ (by omega) (by omega) (fun A' hA => hq A' (fun q m => ?_))
      rw [hA, qa]
      by_cases h2 : q = i + 1 ∧ s ≤ m ∧ m < e
      · rw [if_pos h2]
        by_cases h3 : s + 1 ≤ m
        · rw [if_pos ⟨h2.1, h3, h2.2.2⟩]
        · rw [if_neg (by omega), if_pos (by omega)]
      · rw [if_neg (by omega), if_neg (by omega), if_neg h2]
theorem a3_clear {Q : q_St → Prop} {i s e : Nat} (he : e ≤ 40) (hs : s ≤ 41) (hq : ∀ A' : q_St, (∀ q m, A' q m = if q = i + 1 ∧ s ≤ m ∧ m < e then 0 else A q m) → Q A') : aX3_clearFrom nv md i (nI s) (nI e) Q A := by
  unfold aX3_clearFrom
  have h : (if (0 : Int32) < nI s then nI s else 0) = nI s := by
    by_cases h0 : s = 0
    · subst h0; rfl
    · rw [if_pos (by rw [i_lt, L_0, i_nI (by omega)]; omega)]
  rw [h]
  exact a3_clearL he _ s A hs (by unfold q_fuel; omega) hq
theorem tb_zero {nb' : Nat} (hn : nv ≤ 6) (T : cTb nv nb A) (N : cNt A) {Z : Nat → Nat → Bool} (h132 : ∀ u c, u < 6 → c < 40 → A' 132 (40 * u + c) = if Z u c = true then 0 else A 132 (40 * u + c)) (hsz : ∀ u c, u < nv → c < 40 → A' (18 + 4 * u) c = if Z u c = true then 0 else A (18 + 4 * u) c) (ho : ∀ i, ¬ (16 ≤ i ∧ i < 40 ∧ i % 4 = 2) → i ≠ 132 → (16 ≤ i ∧ i < 40) ∨ (132 ≤ i ∧ i ≤ 136) → A' i = A i) (hz : ∀ u c, u < 6 → c < 40 → nb' ≤ c → Z u c = true ∨ cnt A u c = 0) : cTb nv nb' A' ∧ cNt A' := by
  obtain ⟨t1, t2, t3, t4, t5⟩ := T
  have hc : ∀ u c, u < 6 → c < 40 → cnt A' u c = if Z u c = true then 0 else cnt A u c := by
    intro u c hu hc
    unfold cnt
    rw [h132 u c hu hc]
    split
    · rfl
    · rfl
  refine ⟨⟨fun u c hu hc => ?_, fun u c k w hu hc hk hw => ?_, fun u c hu hc2 => ?_, fun u c hu hc2 h => ?_, fun u c k w h hu hc hk hw => ?_⟩, fun u c k hu hc2 hk => ?_⟩
  · rw [hsz u c hu hc, h132 u c (by omega) hc, t1 u c hu hc]
  · rw [ho _ (by omega) (by omega) (by omega), ho _ (by omega) (by omega) (by omega)]; exact t2 u c k w hu hc hk hw
  · rw [hc u c hu hc2, h132 u c hu hc2]
    split
    · exact ⟨by omega, rfl⟩
    · exact t3 u c hu hc2
  · rw [hc u c hu hc2]
    split
    · rfl
    · next q =>
      rcases h with h | h
      · exact t4 u c hu hc2 (Or.inl h)
      · rcases hz u c hu hc2 h with z | z
        · exact absurd z q
        · exact z
  · rw [ho _ (by omega) (by omega) (by omega)]; exact t5 u c k w h hu hc hk hw
  · rw [hc u c hu hc2] at hk ⊢
    by_cases q : Z u c = true
    · rw [if_pos q] at hk; omega
    · rw [if_neg q] at hk ⊢
      unfold nok lexlt
      rw [ho 133 (by omega) (by omega) (by omega), ho 134 (by omega) (by omega) (by omega), ho 135 (by omega) (by omega) (by omega), ho 136 (by omega) (by omega) (by omega)]
      exact N u c k hu hc2 hk
theorem op_drop (C : Corr nv md nb A) (x y : Int32) : aX7_drop nv md x y (fun r A1 => aX8_drop nv md x y (fun r2 A2 => r = r2 ∧ Corr nv md nb A2) A1) A := by
  obtain ⟨d1, d2, d3, d4, d5, d6, d7⟩ := C.1
  unfold aX7_drop aX5_voiceAt
  simp only [brO]
  by_cases h1 : 0 ≤ x.toInt ∧ x.toInt < nv
  · rw [if_pos h1, a5_hasBar d5 d2]
    simp only [brB]
    obtain ⟨v, hv, rfl⟩ := i_of h1.1 h1.2 (by omega)
    by_cases h2 : 0 ≤ y.toInt ∧ y.toInt < nb
    · rw [if_pos h2]
      obtain ⟨b, hb, rfl⟩ := i_of h2.1 h2.2 (by omega)
      rw [a3_size_n _ (by omega), cl_nI (by omega)]
      simp only [e1, nI_add]
      refine a3_clear (by omega) (by omega) (fun A1 hA => ?_)
      have g : ∀ q, ¬ q = 18 + 4 * v → A1 q = A q := fun q hq => funext fun m => by rw [hA, if_neg (by omega)]
      unfold aX8_drop
      rw [a8_isVoice (n := nv) (by rw [g _ (by omega)]; exact d4) d1]
      simp only [brB']
      rw [if_pos h1, a8_isBar (n := nb) (by rw [g _ (by omega)]; exact d6) d2]
      simp only [brB]
      rw [if_pos h2]
      simp only [e40, n_ma]
      rw [in_n (by omega) (by omega), a_s_n (by omega) (by omega), cl_nI (by omega), g 132 (by omega)]
      have T := tb_zero (A' := q_u A1 132 (40 * v + b) 0) (nb' := nb) (Z := fun u c => decide (u = v ∧ c = b)) d1 C.2.1 C.2.2.1 (fun u c hu hc => by
          rw [qa, g 132 (by omega)]
          by_cases e : u = v ∧ c = b
          · rw [if_pos (by omega), if_pos (by simp [e])]
          · rw [if_neg (by omega), if_neg (by simp; omega)]) (fun u c hu hc => by
          rw [qn (by omega), hA]
          by_cases e : u = v ∧ c = b
          · rw [if_pos (by omega), if_pos (by simp [e])]
          · rw [if_neg (by omega), if_neg (by simp; omega)]) (fun i a c _ => by rw [q_u_ne _ _ _ c, g i (by omega)]) (fun u c hu hc h => Or.inr (C.2.1.2.2.2.1 u c hu hc (Or.inr h)))
      have e2 : 16 + 4 * v + 1 + 1 = 18 + 4 * v := by omega
      rw [e2]
      exact ⟨C.2.1.1 v b hv (by omega), C.tb T.1 T.2 (fun i a c => by rw [q_u_ne _ _ _ (by omega), g _ (by omega)])⟩
    · rw [if_neg h2]
      unfold aX8_drop
      rw [a8_isVoice d4 d1]
      simp only [brB']
      rw [if_pos h1, a8_isBar d6 d2]
      simp only [brB]
      rw [if_neg h2]
      (first | exact ⟨rfl, C⟩ | exact ⟨trivial, C⟩)
  · rw [if_neg h1]
    unfold aX8_drop
    rw [a8_isVoice d4 d1]
    simp only [brB']
    rw [if_neg h1]
    (first | exact ⟨rfl, C⟩ | exact ⟨trivial, C⟩)
end CCLR
