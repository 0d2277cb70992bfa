def shf8 (A : q_St) (x n k : Nat) : q_St := fun j m => if (133 ≤ j ∧ j ≤ 136) ∧ 8 * x + k + 1 ≤ m ∧ m < 8 * x + n + 1 then A j (m - 1) else A j m
def ins8 (A : q_St) (x n k : Nat) (s l p q : Int32) : q_St := fun j m => if j = 132 ∧ m = x then nI (n + 1) else if (133 ≤ j ∧ j ≤ 136) ∧ m = 8 * x + k then nw4 s l p q (j - 133) else shf8 A x n k j m
def bh8 (A : q_St) (x : Nat) (s p : Int32) (k : Nat) : Bool := decide (s < A 133 (8 * x + k) ∨ (A 133 (8 * x + k) = s ∧ p < A 135 (8 * x + k)))
section CNOTE
variable {nv nb : Nat} {md : Nat → Bool} {Q : Int32 → q_St → Prop} {A : q_St} {x n : Nat}
theorem a8_note303 (hx : x < 240) (hn : n < 8) (hs : A 132 x = nI n) {k : Nat} (hk : k ≤ n) (s l p q : Int32) {A' : q_St} (hA : ∀ j m, A' j m = shf8 A x n k j m) (hq : ∀ A'' : q_St, (∀ j m, A'' j m = ins8 A x n k s l p q j m) → Q (nI (n + 1)) A'') : aX8_note_b303 nv md Q s l p q (nI x) (nI (8 * x + k)) A' := by
  unfold aX8_note_b303
  rw [a_s_n (by omega) (by omega), a_s_n (by omega) (by omega), a_s_n (by omega) (by omega), a_s_n (by omega) (by omega), in_n (by omega) (by omega), a_s_n (by omega) (by omega), in_n (by omega) (by omega), cl_nI (by omega), qh]
  have e : q_u (q_u (q_u (q_u A' 133 (8 * x + k) s) 134 (8 * x + k) l) 135 (8 * x + k) p) 136 (8 * x + k) q 132 x + 1 = nI (n + 1) := by
    rw [qn (by omega), qn (by omega), qn (by omega), qn (by omega), hA]
    unfold shf8
    rw [if_neg (by omega), hs, e1, nI_add]
  rw [e]
  refine hq _ (fun j m => ?_)
  simp only [qa, hA]
  unfold ins8 nw4
  by_cases h1 : j = 132 ∧ m = x
  · rw [if_pos h1, if_pos h1]
  · rw [if_neg h1, if_neg h1]
    by_cases h2 : (133 ≤ j ∧ j ≤ 136) ∧ m = 8 * x + k
    · rw [if_pos h2]
      obtain ⟨h3, h4⟩ := h2
      rcases (show j = 133 ∨ j = 134 ∨ j = 135 ∨ j = 136 by omega) with e | e | e | e
      · rw [if_neg (by omega), if_neg (by omega), if_neg (by omega), if_pos (by omega), if_pos (by omega)]
      · rw [if_neg (by omega), if_neg (by omega), if_pos (by omega), if_neg (by omega), if_pos (by omega)]
      · rw [if_neg (by omega), if_pos (by omega), if_neg (by omega), if_neg (by omega), if_pos (by omega)]
      · rw [if_pos (by omega), if_neg (by omega), if_neg (by omega), if_neg (by omega)]
    · rw [if_neg h2, if_neg (by omega), if_neg (by omega), if_neg (by omega), if_neg (by omega)]
theorem a8_noteS (hx : x < 240) (hn : n < 8) (hs : A 132 x = nI n) (s l p q : Int32) : ∀ (f k : Nat) (A' : q_St), k ≤ n → k < f → (∀ j m, A' j m = shf8 A x n k j m) → (∀ A'' : q_St, (∀ j m, A'' j m = ins8 A x n (ip (bh8 A x s p) k) s l p q j m) → Q (nI (n + 1)) A'') → alX8_note_b183 nv md Q f s l p q (nI x) (nI (8 * x + k)) A' := by
  intro f
  induction f with
  | zero => intro k A' h1 h2; exact absurd h2 (by omega)
  | succ f ih =>
    intro k A' h1 h2 hA hq
    show aX8_note_b183 nv md Q (alX8_note_b183 nv md Q f) s l p q (nI x) (nI (8 * x + k)) A'
    unfold aX8_note_b183
    rw [e8, pk_mul, le_n (by omega) (by omega)]
    by_cases h : 8 * x + k ≤ 8 * x
    · rw [brT h]
      rw [show k = 0 by omega] at hA hq ⊢
      exact a8_note303 hx hn hs (by omega) s l p q hA hq
    · rw [brF h]
      obtain ⟨k', rfl⟩ : ∃ k', k = k' + 1 := ⟨k - 1, by omega⟩
      have ek : nI (8 * x + (k' + 1)) - 1 = nI (8 * x + k') := nI_pred (8 * x + k')
      rw [ek, in_n (by omega) (by omega), in_n (by omega) (by omega), in_n (by omega) (by omega), cl_nI (by omega)]
      have ru : ∀ j m, m ≤ 8 * x + (k' + 1) → A' j m = A j m := fun j m hm => by rw [hA]; unfold shf8; rw [if_neg (by omega)]
      rw [ru 133 _ (by omega), ru 135 _ (by omega)]
      have ei : ip (bh8 A x s p) (k' + 1) = if bh8 A x s p k' = true then ip (bh8 A x s p) k' else k' + 1 := rfl
      rw [ei] at hq
      have step : bh8 A x s p k' = true → aX8_note_b233 nv md Q (alX8_note_b183 nv md Q f) s l p q (nI x) (nI (8 * x + (k' + 1))) A' := by
        intro hz
        rw [if_pos hz] at hq
        unfold aX8_note_b233
        rw [ek, in_n (by omega) (by omega), a_s_n (by omega) (by omega), in_n (by omega) (by omega), a_s_n (by omega) (by omega), in_n (by omega) (by omega), a_s_n (by omega) (by omega), in_n (by omega) (by omega), a_s_n (by omega) (by omega), cl_nI (by omega)]
        have em : nI (8 * x + (k' + 1)) + (-1) = nI (8 * x + k') := pk_m1 (8 * x + k')
        rw [em]
        refine ih k' _ (by omega) (by omega) (fun j m => ?_) hq
        simp only [qa]
        unfold shf8
        by_cases g : (133 ≤ j ∧ j ≤ 136) ∧ m = 8 * x + (k' + 1)
        · obtain ⟨g1, rfl⟩ := g
          rw [if_pos (show (133 ≤ j ∧ j ≤ 136) ∧ 8 * x + k' + 1 ≤ 8 * x + (k' + 1) ∧ 8 * x + (k' + 1) < 8 * x + n + 1 by omega), show 8 * x + (k' + 1) - 1 = 8 * x + k' by omega]
          rcases (show j = 133 ∨ j = 134 ∨ j = 135 ∨ j = 136 by omega) with rfl | rfl | rfl | rfl
          · simp; exact ru _ _ (by omega)
          · simp; exact ru _ _ (by omega)
          · simp; exact ru _ _ (by omega)
          · simp; exact ru _ _ (by omega)
        · rw [if_neg (by omega), if_neg (by omega), if_neg (by omega), if_neg (by omega), hA]
          unfold shf8
          by_cases g2 : (133 ≤ j ∧ j ≤ 136) ∧ 8 * x + (k' + 1) + 1 ≤ m ∧ m < 8 * x + n + 1
          · rw [if_pos g2, if_pos (by omega)]
          · rw [if_neg g2, if_neg (by omega)]
      have stop : bh8 A x s p k' = false → aX8_note_b303 nv md Q s l p q (nI x) (nI (8 * x + (k' + 1))) A' := by
        intro hz
        rw [if_neg (by rw [hz]; decide)] at hq
        exact a8_note303 hx hn hs h1 s l p q hA hq
      by_cases c1 : s < A 133 (8 * x + k')
      · rw [brT c1]
        exact step (by unfold bh8; exact decide_eq_true (Or.inl c1))
      · rw [brF c1]
        by_cases c2 : A 133 (8 * x + k') = s
        · rw [brT' c2]
          by_cases c3 : A 135 (8 * x + k') ≤ p
          · rw [brT c3]
            refine stop (decide_eq_false ?_)
            rintro (z | z)
            · exact c1 z
            · have z2 := z.2; rw [i_lt] at z2; rw [i_le] at c3; omega
          · rw [brF c3]
            refine step (decide_eq_true (Or.inr ⟨c2, ?_⟩))
            rw [i_lt]; rw [i_le] at c3; omega
        · rw [brF' c2]
          refine stop (decide_eq_false ?_)
          rintro (z | z)
          · exact c1 z
          · exact c2 z.1
theorem a8_noteL (hx : x < 240) (hn : n ≤ 8) (hs : A 132 x = nI n) (s l p q : Int32) (hq0 : exB (fun k => decide (A 133 (8 * x + k) = s ∧ A 135 (8 * x + k) = p)) n = true → Q (-103) A) (hq1 : exB (fun k => decide (A 133 (8 * x + k) = s ∧ A 135 (8 * x + k) = p)) n = false → n = 8 → Q (-104) A) (hq2 : exB (fun k => decide (A 133 (8 * x + k) = s ∧ A 135 (8 * x + k) = p)) n = false → n < 8 → ∀ A'' : q_St, (∀ j m, A'' j m = ins8 A x n (ip (bh8 A x s p) n) s l p q j m) → Q (nI (n + 1)) A'') : ∀ (f k : Nat), k ≤ n → 9 ≤ f + k → (∀ j, j < k → ¬ (A 133 (8 * x + j) = s ∧ A 135 (8 * x + j) = p)) → alX8_note_b97 nv md Q f s l p q (nI x) (nI k) A := by
  intro f
  induction f with
  | zero => intro k h1 h2; exact absurd h2 (by omega)
  | succ f ih =>
    intro k h1 h2 hk
    show aX8_note_b97 nv md Q (alX8_note_b97 nv md Q f) s l p q (nI x) (nI k) A
    unfold aX8_note_b97 aX8_note_b147
    rw [in_n (by omega) (by omega), in_n (by omega) (by omega), in_n (by omega) (by omega), cl_nI (by omega), hs, le_n (by omega) (by omega)]
    by_cases h : n ≤ k
    · rw [brT h]
      have hf : exB (fun k => decide (A 133 (8 * x + k) = s ∧ A 135 (8 * x + k) = p)) n = false := by
        refine exB_eq ?_
        simp
        intro j hj a
        exact fun c => hk j (by omega) ⟨a, c⟩
      rw [e8, eq_n (by omega) (by omega), pk_mul, nI_add]
      by_cases h8 : n = 8
      · rw [brT' h8]; exact hq1 hf h8
      · rw [brF' h8]
        exact a8_noteS hx (by omega) hs s l p q _ n A (by omega) (by unfold q_fuel; omega) (fun j m => by unfold shf8; rw [if_neg (by omega)]) (hq2 hf (by omega))
    · rw [brF h, e8, pk_mul, nI_add, in_n (by omega) (by omega), in_n (by omega) (by omega), cl_nI (by omega), e1, nI_add]
      by_cases c1 : A 133 (8 * x + k) = s
      · rw [brT' c1]
        by_cases c2 : A 135 (8 * x + k) = p
        · rw [brT' c2]
          exact hq0 (exB_iff.mpr ⟨k, by omega, by simp [c1, c2]⟩)
        · rw [brF' c2]
          exact ih (k + 1) (by omega) (by omega) (fun j hj => by
            by_cases e : j = k
            · rw [e]; exact fun z => c2 z.2
            · exact hk j (by omega))
      · rw [brF' c1]
        exact ih (k + 1) (by omega) (by omega) (fun j hj => by
          by_cases e : j = k
          · rw [e]; exact fun z => c1 z.1
          · exact hk j (by omega))
end CNOTE
