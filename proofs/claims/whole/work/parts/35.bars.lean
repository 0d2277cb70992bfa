section CBARS
variable {nv nb : Nat} {md : Nat → Bool} {A A' : q_St}
theorem a5_resizeL {Q : Int32 → q_St → Prop} {N B : Nat} (hn : nv ≤ 6) (hN : N ≤ 40) (hB : B ≤ 40) : ∀ (n v : Nat) (A : q_St), v ≤ 6 → 7 ≤ n + v → (∀ A' : q_St, (∀ q m, A' q m = if (18 + 4 * v ≤ q ∧ q < 18 + 4 * nv ∧ q % 4 = 2) ∧ N ≤ m ∧ m < B then 0 else A q m) → aX2_clearFrom nv md (nI N) (nI B) (fun A_2 => a_p 1 3 (nI N) A_2 (fun A_3 => Q (nI B) A_3)) A') → alX5_resize_b7 nv md Q n (nI N) (nI B) (nI v) A := by
  intro n
  induction n with
  | zero => intro v A hv h; exact absurd h (by omega)
  | succ n ih =>
    intro v A hv h hq
    show aX5_resize_b7 nv md Q (alX5_resize_b7 nv md Q n) (nI N) (nI B) (nI v) A
    unfold aX5_resize_b7 aX5_voiceAt aX5_resize_b35
    simp only [brO]
    rw [i_le, L_6, i_nI (by omega)]
    by_cases h1 : (6 : Int) ≤ v
    · rw [brT h1]
      exact hq A (fun q m => by rw [if_neg (by omega)])
    · rw [brF h1]
      simp only [e1, nI_add]
      by_cases h2 : (0 : Int) ≤ v ∧ (v : Int) < nv
      · rw [if_pos h2, cl_nI (by omega)]
        refine a3_clear hB (by omega) (fun A1 hA => ih (v + 1) A1 (by omega) (by omega) (fun A' hA' => hq A' (fun q m => ?_)))
        rw [hA', hA]
        by_cases h3 : (18 + 4 * (v + 1) ≤ q ∧ q < 18 + 4 * nv ∧ q % 4 = 2) ∧ N ≤ m ∧ m < B
        · rw [if_pos h3, if_pos (by omega)]
        · rw [if_neg h3]
          by_cases h4 : q = 16 + 4 * v + 1 + 1 ∧ N ≤ m ∧ m < B
          · rw [if_pos h4, if_pos (by omega)]
          · rw [if_neg h4, if_neg (by omega)]
      · rw [if_neg h2]
        refine ih (v + 1) A (by omega) (by omega) (fun A' hA' => hq A' (fun q m => ?_))
        rw [hA', if_neg (by omega), if_neg (by omega)]
theorem a2_clearK {Q : q_St → Prop} {k6 : Int32 → Int32 → q_St → Prop} {s B : Nat} (hs : s < 40) : ∀ (n k : Nat) (A : q_St), k ≤ 5 → 6 ≤ n + k → (∀ A' : q_St, (∀ q m, A' q m = if q = 4 ∧ s * 5 + k ≤ m ∧ m < s * 5 + 5 then -100 else A q m) → k6 (nI B) (nI (s + 1)) A') → alX2_clearFrom_b20 nv md Q k6 n (nI B) (nI s) (nI k) A := by
  intro n
  induction n with
  | zero => intro k A hk h; exact absurd h (by omega)
  | succ n ih =>
    intro k A hk h hq
    show aX2_clearFrom_b20 nv md Q k6 (alX2_clearFrom_b20 nv md Q k6 n) (nI B) (nI s) (nI k) A
    unfold aX2_clearFrom_b20
    rw [i_le, L_5, i_nI (by omega)]
    simp only [e1, nI_add]
    by_cases h1 : (5 : Int) ≤ k
    · rw [brT h1]
      exact hq A (fun q m => by rw [if_neg (by omega)])
    · rw [brF h1, a2_replace hs (by omega)]
      refine ih (k + 1) _ (by omega) (by omega) (fun A' hA' => hq A' (fun q m => ?_))
      rw [hA', qa]
      by_cases h2 : q = 4 ∧ s * 5 + (k + 1) ≤ m ∧ m < s * 5 + 5
      · rw [if_pos h2, if_pos (by omega)]
      · rw [if_neg h2]
        by_cases h3 : q = 4 ∧ m = s * 5 + k
        · rw [if_pos h3, if_pos (by omega)]
        · rw [if_neg h3, if_neg (by omega)]
theorem a2_clearB {Q : q_St → Prop} {B : Nat} (hB : B ≤ 40) : ∀ (n s : Nat) (A : q_St), s ≤ 41 → 42 ≤ n + s → (∀ A' : q_St, (∀ q m, A' q m = if q = 4 ∧ s * 5 ≤ m ∧ m < B * 5 then -100 else A q m) → Q A') → alX2_clearFrom_b6 nv md Q n (nI B) (nI s) A := by
  intro n
  induction n with
  | zero => intro s A hs h; exact absurd h (by omega)
  | succ n ih =>
    intro s A hs h hq
    show aX2_clearFrom_b6 nv md Q (alX2_clearFrom_b6 nv md Q n) (nI B) (nI s) A
    unfold aX2_clearFrom_b6
    rw [i_le, i_le, L_40, i_nI (by omega), i_nI (by omega)]
    by_cases h1 : (B : Int) ≤ s
    · rw [brT h1]
      exact hq A (fun q m => by rw [if_neg (by omega)])
    · rw [brF h1, brF (by omega)]
      refine a2_clearK (by omega) _ 0 A (by omega) (by unfold q_fuel; omega) (fun A1 hA => ih (s + 1) A1 (by omega) (by omega) (fun A' hA' => hq A' (fun q m => ?_)))
      rw [hA', hA]
      by_cases h2 : q = 4 ∧ (s + 1) * 5 ≤ m ∧ m < B * 5
      · rw [if_pos h2, if_pos (by omega)]
      · rw [if_neg h2]
        by_cases h3 : q = 4 ∧ s * 5 + 0 ≤ m ∧ m < s * 5 + 5
        · rw [if_pos h3, if_pos (by omega)]
        · rw [if_neg h3, if_neg (by omega)]
theorem a2_clear {Q : q_St → Prop} {s B : Nat} (hB : B ≤ 40) (hs : s ≤ 41) (hq : ∀ A' : q_St, (∀ q m, A' q m = if q = 4 ∧ s * 5 ≤ m ∧ m < B * 5 then -100 else A q m) → Q A') : aX2_clearFrom nv md (nI s) (nI B) Q A := by
  unfold aX2_clearFrom
  have h : (if (0 : Int32) < nI s then nI s else 0) = nI s := by
    by_cases h0 : s = 0
    · subst h0; rfl
    · rw [if_pos (by rw [i_lt, L_0, i_nI (by omega)]; omega)]
  rw [h]
  exact a2_clearB hB _ s A hs (by unfold q_fuel; omega) hq
theorem a5_resize {Q : Int32 → q_St → Prop} {N B : Nat} (hn : nv ≤ 6) (hN : N ≤ 40) (hB : B ≤ 40) (h3 : A 1 3 = nI B) (hq : ∀ A' : q_St, (∀ q m, A' q m = if (18 ≤ q ∧ q < 18 + 4 * nv ∧ q % 4 = 2) ∧ N ≤ m ∧ m < B then 0 else if q = 4 ∧ N * 5 ≤ m ∧ m < B * 5 then -100 else if q = 1 ∧ m = 3 then nI N else A q m) → Q (nI B) A') : aX5_resize nv md (nI N) Q A := by
  unfold aX5_resize
  rw [h3]
  refine a5_resizeL hn hN hB _ 0 A (by omega) (by unfold q_fuel; omega) (fun A1 hA => a2_clear hB (by omega) (fun A2 hA2 => hq _ (fun q m => ?_)))
  rw [qa, hA2, hA]
  by_cases g1 : q = 1 ∧ m = 3
  · rw [if_pos g1, if_neg (by omega), if_neg (by omega), if_pos g1]
  · rw [if_neg g1]
    by_cases g2 : q = 4 ∧ N * 5 ≤ m ∧ m < B * 5
    · rw [if_pos g2, if_neg (by omega), if_pos g2]
    · rw [if_neg g2]
      by_cases g3 : (18 + 4 * 0 ≤ q ∧ q < 18 + 4 * nv ∧ q % 4 = 2) ∧ N ≤ m ∧ m < B
      · rw [if_pos g3, if_pos (by omega)]
      · rw [if_neg g3, if_neg (by omega), if_neg g2, if_neg g1]
theorem a8_barsK {Q : Int32 → q_St → Prop} {k15 : Int32 → Int32 → q_St → Prop} {N s : Nat} (hs : s < 40) : ∀ (n k : Nat) (A : q_St), k ≤ 5 → 6 ≤ n + k → (∀ A' : q_St, (∀ q m, A' q m = if q = 137 ∧ 5 * s + k ≤ m ∧ m < 5 * s + 5 then 0 else A q m) → k15 (nI N) (nI (s + 1)) A') → alX8_bars_b51 nv md Q k15 n (nI N) (nI s) (nI k) A := by
  intro n
  induction n with
  | zero => intro k A hk h; exact absurd h (by omega)
  | succ n ih =>
    intro k A hk h hq
    show aX8_bars_b51 nv md Q k15 (alX8_bars_b51 nv md Q k15 n) (nI N) (nI s) (nI k) A
    unfold aX8_bars_b51
    rw [i_le, L_5, i_nI (by omega)]
    by_cases h1 : (5 : Int) ≤ k
    · rw [brT h1]
      simp only [e1, nI_add]
      exact hq A (fun q m => by rw [if_neg (by omega)])
    · rw [brF h1]
      simp only [e5, n_ma, nar0]
      rw [a_s_n (by omega) (by omega)]
      simp only [e1, nI_add]
      refine ih (k + 1) _ (by omega) (by omega) (fun A' hA' => hq A' (fun q m => ?_))
      rw [hA', qa]
      by_cases h2 : q = 137 ∧ 5 * s + (k + 1) ≤ m ∧ m < 5 * s + 5
      · rw [if_pos h2, if_pos (by omega)]
      · rw [if_neg h2]
        by_cases h3 : q = 137 ∧ m = 5 * s + k
        · rw [if_pos h3, if_pos (by omega)]
        · rw [if_neg h3, if_neg (by omega)]
theorem a8_barsV {Q : Int32 → q_St → Prop} {k15 : Int32 → Int32 → q_St → Prop} {N s : Nat} (hs : s < 40) : ∀ (n v : Nat) (A : q_St), v ≤ 6 → 7 ≤ n + v → (∀ A' : q_St, (∀ q m, A' q m = if (q = 137 ∧ 5 * s ≤ m ∧ m < 5 * s + 5) ∨ (q = 132 ∧ m % 40 = s ∧ 40 * v ≤ m ∧ m < 240) then 0 else A q m) → k15 (nI N) (nI (s + 1)) A') → alX8_bars_b25 nv md Q k15 n (nI N) (nI s) (nI v) A := by
  intro n
  induction n with
  | zero => intro v A hk h; exact absurd h (by omega)
  | succ n ih =>
    intro v A hv h hq
    show aX8_bars_b25 nv md Q k15 (alX8_bars_b25 nv md Q k15 n) (nI N) (nI s) (nI v) A
    unfold aX8_bars_b25
    rw [i_le, L_6, i_nI (by omega)]
    by_cases h1 : (6 : Int) ≤ v
    · rw [brT h1]
      refine a8_barsK hs _ 0 A (by omega) (by unfold q_fuel; omega) (fun A' hA' => hq A' (fun q m => ?_))
      rw [hA']
      by_cases h2 : q = 137 ∧ 5 * s + 0 ≤ m ∧ m < 5 * s + 5
      · rw [if_pos h2, if_pos (by omega)]
      · rw [if_neg h2, if_neg (by omega)]
    · rw [brF h1]
      simp only [e40, n_ma]
      rw [a_s_n (by omega) (by omega)]
      simp only [e1, nI_add]
      refine ih (v + 1) _ (by omega) (by omega) (fun A' hA' => hq A' (fun q m => ?_))
      rw [hA', qa]
      by_cases h2 : (q = 137 ∧ 5 * s ≤ m ∧ m < 5 * s + 5) ∨ (q = 132 ∧ m % 40 = s ∧ 40 * (v + 1) ≤ m ∧ m < 240)
      · rw [if_pos h2, if_pos (by omega)]
      · rw [if_neg h2]
        by_cases h3 : q = 132 ∧ m = 40 * v + s
        · rw [if_pos h3, if_pos (by omega)]
        · rw [if_neg h3, if_neg (by omega)]
theorem a8_barsB {Q : Int32 → q_St → Prop} {N B : Nat} (hN : N ≤ 40) (hB : B ≤ 40) : ∀ (n s : Nat) (A : q_St), A 128 1 = nI B → s ≤ 41 → 42 ≤ n + s → (∀ A' : q_St, (∀ q m, A' q m = if (q = 137 ∧ 5 * s ≤ m ∧ m < 5 * B) ∨ (q = 132 ∧ s ≤ m % 40 ∧ m % 40 < B ∧ m < 240) then 0 else if q = 128 ∧ m = 1 then nI N else A q m) → Q (nI B) A') → alX8_bars_b15 nv md Q n (nI N) (nI s) A := by
  intro n
  induction n with
  | zero => intro s A hs _ h; exact absurd h (by omega)
  | succ n ih =>
    intro s A h128 hs h hq
    show aX8_bars_b15 nv md Q (alX8_bars_b15 nv md Q n) (nI N) (nI s) A
    unfold aX8_bars_b15
    rw [h128, i_le, i_nI (by omega), i_nI (by omega)]
    by_cases h1 : (B : Int) ≤ s
    · rw [brT h1]
      refine hq _ (fun q m => ?_)
      rw [qa]
      exact (if_neg (by omega)).symm
    · rw [brF h1]
      refine a8_barsV (by omega) _ 0 A (by omega) (by unfold q_fuel; omega) (fun A1 hA => ih (s + 1) A1 (by rw [hA, if_neg (by omega)]; exact h128) (by omega) (by omega) (fun A' hA' => hq A' (fun q m => ?_)))
      rw [hA', hA]
      by_cases h2 : (q = 137 ∧ 5 * (s + 1) ≤ m ∧ m < 5 * B) ∨ (q = 132 ∧ s + 1 ≤ m % 40 ∧ m % 40 < B ∧ m < 240)
      · rw [if_pos h2, if_pos (by omega)]
      · rw [if_neg h2]
        by_cases h3 : q = 128 ∧ m = 1
        · rw [if_pos h3, if_neg (by omega), if_pos h3]
        · rw [if_neg h3]
          by_cases h4 : (q = 137 ∧ 5 * s ≤ m ∧ m < 5 * s + 5) ∨ (q = 132 ∧ m % 40 = s ∧ 40 * 0 ≤ m ∧ m < 240)
          · rw [if_pos h4, if_pos (by omega)]
          · rw [if_neg h4, if_neg (by omega), if_neg h3]
theorem op_bars (C : Corr nv md nb A) (x : Int32) : aX7_bars nv md x (fun r A1 => aX8_bars nv md x (fun r2 A2 => r = r2 ∧ ∃ nb', Corr nv md nb' A2) A1) A := by
  obtain ⟨d1, d2, d3, d4, d5, d6, d7⟩ := C.1
  unfold aX7_bars
  rw [a7_within]
  simp only [brB, L_0, L_40]
  by_cases h1 : 0 ≤ x.toInt ∧ x.toInt ≤ 40
  · rw [if_pos h1]
    obtain ⟨N, hN, rfl⟩ := i_of (x := x) (N := 41) (by omega) (by omega) (by omega)
    refine a5_resize d1 (by omega) d2 d5 (fun A1 hA => ?_)
    unfold aX8_bars
    rw [a8_in]
    simp only [brB, L_0, L_40]
    rw [if_pos h1]
    have g : ∀ q, ¬ (18 ≤ q ∧ q < 42 ∧ q % 4 = 2) → q ≠ 4 → q ≠ 1 → A1 q = A q := fun q a b c => funext fun m => by rw [hA, if_neg (by omega), if_neg (by omega), if_neg (by omega)]
    refine a8_barsB (by omega) d2 _ N A1 (by rw [g _ (by omega) (by omega) (by omega)]; exact d6) (by omega) (by unfold q_fuel; omega) (fun A2 hB => ⟨rfl, N, ?_⟩)
    have g2 : ∀ q, q ≠ 137 → q ≠ 132 → q ≠ 128 → A2 q = A1 q := fun q a b c => funext fun m => by rw [hB, if_neg (by omega), if_neg (by omega)]
    have T := tb_zero (A' := A2) (nb' := N) (Z := fun u c => decide (N ≤ c ∧ c < nb)) d1 C.2.1 C.2.2.1 (fun u c hu hc => by
        rw [hB, g 132 (by omega) (by omega) (by omega)]
        by_cases e : N ≤ c ∧ c < nb
        · rw [if_pos (by omega), if_pos (by simp [e])]
        · rw [if_neg (by omega), if_neg (by omega), if_neg (by simp; omega)]) (fun u c hu hc => by
        rw [g2 _ (by omega) (by omega) (by omega), hA]
        by_cases e : N ≤ c ∧ c < nb
        · rw [if_pos (by omega), if_pos (by simp [e])]
        · rw [if_neg (by omega), if_neg (by omega), if_neg (by omega), if_neg (by simp; omega)]) (fun i a c e => by rw [g2 i (by omega) c (by omega), g i (by omega) (by omega) (by omega)]) (fun u c hu hc h => by
        by_cases e : c < nb
        · left; simp; omega
        · right; exact C.2.1.2.2.2.1 u c hu hc (Or.inr (by omega)))
    have o : ∀ q, ¬ (18 ≤ q ∧ q < 42 ∧ q % 4 = 2) → q ≠ 4 → q ≠ 1 → q ≠ 137 → q ≠ 132 → q ≠ 128 → A2 q = A q := fun q a b c d e f => by rw [g2 q d e f, g q a b c]
    have f1 : ∀ m, m ≠ 3 → A2 1 m = A 1 m := fun m hm => by rw [g2 _ (by omega) (by omega) (by omega), hA, if_neg (by omega), if_neg (by omega), if_neg (by omega)]
    have f128 : ∀ m, m ≠ 1 → A2 128 m = A 128 m := fun m hm => by rw [hB, if_neg (by omega), if_neg (by omega), g 128 (by omega) (by omega) (by omega)]
    obtain ⟨c1, c2, c3, c4, c5, c6, c7⟩ := C
    refine ⟨⟨d1, by omega, by rw [f1 2 (by omega)]; exact d3, by rw [f128 0 (by omega)]; exact d4, ?_, ?_, by rw [f1 4 (by omega), f128 11 (by omega)]; exact d7⟩, T.1, T.2, ?_, cVc_congr d1 (fun i a b c => o i (by omega) (by omega) (by omega) (by omega) (by omega) (by omega)) (o _ (by omega) (by omega) (by omega) (by omega) (by omega) (by omega)) (o _ (by omega) (by omega) (by omega) (by omega) (by omega) (by omega)) c5, cPg_congr (o _ (by omega) (by omega) (by omega) (by omega) (by omega) (by omega)) (f128 _ (by omega)) (f128 _ (by omega)) c6, cPt_congr (fun i a b => o i (by omega) (by omega) (by omega) (by omega) (by omega) (by omega)) (o _ (by omega) (by omega) (by omega) (by omega) (by omega) (by omega)) (fun p _ => by rw [o 143 (by omega) (by omega) (by omega) (by omega) (by omega) (by omega)]) (fun q x a b _ => by rw [o q (by omega) (by omega) (by omega) (by omega) (by omega) (by omega)]) (fun x _ => by rw [o 151 (by omega) (by omega) (by omega) (by omega) (by omega) (by omega)]) c7⟩
    · rw [g2 _ (by omega) (by omega) (by omega), hA, if_neg (by omega), if_neg (by omega), if_pos (by omega)]
    · rw [hB, if_neg (by omega), if_pos (by omega)]
    · intro b k hb hk
      have h137 : A2 137 (5 * b + k) = if N ≤ b ∧ b < nb then 0 else A 137 (5 * b + k) := by
        rw [hB]
        by_cases e : N ≤ b ∧ b < nb
        · rw [if_pos (by omega), if_pos e]
        · rw [if_neg (by omega), if_neg (by omega), if_neg e, g 137 (by omega) (by omega) (by omega)]
      have h4 : A2 4 (b * 5 + k) = if N ≤ b ∧ b < nb then -100 else A 4 (b * 5 + k) := by
        rw [g2 4 (by omega) (by omega) (by omega), hA, if_neg (by omega)]
        by_cases e : N ≤ b ∧ b < nb
        · rw [if_pos (by omega), if_pos e]
        · rw [if_neg (by omega), if_neg (by omega), if_neg e]
      rw [o 138 (by omega) (by omega) (by omega) (by omega) (by omega) (by omega), h137, h4]
      by_cases e : N ≤ b ∧ b < nb
      · left
        rw [if_pos e, if_pos e]
        exact ⟨rfl, rfl⟩
      · rw [if_neg e, if_neg e]
        rcases c4 b k hb hk with q | q
        · exact Or.inl q
        · exact Or.inr ⟨q.1, q.2.1, by omega, q.2.2.2⟩
  · rw [if_neg h1]
    unfold aX8_bars
    rw [a8_in]
    simp only [brB, L_0, L_40]
    rw [if_neg h1]
    (first | exact ⟨rfl, nb, C⟩ | exact ⟨trivial, nb, C⟩)
end CBARS
