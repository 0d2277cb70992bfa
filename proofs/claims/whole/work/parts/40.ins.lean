/-- where a NOTE comes: behind those that are not behind it -/
def ip (bh : Nat → Bool) : Nat → Nat
  | 0 => 0
  | k + 1 => if bh k = true then ip bh k else k + 1
theorem ip_le (bh : Nat → Bool) : ∀ n, ip bh n ≤ n := by
  intro n
  induction n with
  | zero => exact Nat.le_refl 0
  | succ n ih =>
    show (if bh n = true then ip bh n else n + 1) ≤ n + 1
    split
    · omega
    · omega
theorem ip_bh {bh : Nat → Bool} : ∀ {n k : Nat}, ip bh n ≤ k → k < n → bh k = true := by
  intro n
  induction n with
  | zero => intro k _ h; omega
  | succ n ih =>
    intro k h1 h2
    have e : ip bh (n + 1) = if bh n = true then ip bh n else n + 1 := rfl
    rw [e] at h1
    by_cases q : bh n = true
    · rw [if_pos q] at h1
      by_cases z : k = n
      · rw [z]; exact q
      · exact ih h1 (by omega)
    · rw [if_neg q] at h1; omega
theorem ip_nb {bh : Nat → Bool} : ∀ {n k : Nat}, ip bh n = k + 1 → bh k = false := by
  intro n
  induction n with
  | zero => intro k h; cases h
  | succ n ih =>
    intro k h
    have e : ip bh (n + 1) = if bh n = true then ip bh n else n + 1 := rfl
    rw [e] at h
    by_cases q : bh n = true
    · rw [if_pos q] at h; exact ih h
    · rw [if_neg q] at h
      have : n = k := by omega
      rw [← this]; simpa using q
def nw4 (s l p q : Int32) (w : Nat) : Int32 := if w = 0 then s else if w = 1 then l else if w = 2 then p else q
section CINS
variable {nv nb : Nat} {md : Nat → Bool} {A : q_St} {i b n : Nat}
theorem a3_fig {Q : Int32 → q_St → Prop} (hb : b < 40) (hs : A (i + 1) b = nI n) (hn : n ≤ 8) {k w : Nat} (hk : k < n) (hw : w < 4) : aX3_figure nv md i (nI b) (nI k) (nI w) Q A = Q (A (i + 2) ((b * 8 + k) * 4 + w)) A := by
  unfold aX3_figure
  rw [cl_nI (by omega), hs]
  simp only [i_lt, i_le, L_0, L_40, L_4]
  rw [i_nI (by omega), i_nI (by omega), i_nI (by omega), i_nI (by omega), brF (by omega), brF (by omega), brF (by omega), in_n (by omega) (by omega), brF (by omega), brF (by omega), brT (by omega)]
  simp only [e8, e4, pk_mul, nI_add]
  rw [in_n (by omega) (by omega), cl_nI (by omega)]
theorem a3_behind {Q : Int32 → q_St → Prop} (hb : b < 40) (hs : A (i + 1) b = nI n) (hn : n ≤ 8) {k : Nat} (hk : k < n) (s p : Int32) : aX3_isBehind nv md i (nI b) (nI k) s p Q A = Q (bI (decide (s < A (i + 2) ((b * 8 + k) * 4) ∨ (A (i + 2) ((b * 8 + k) * 4) = s ∧ p < A (i + 2) ((b * 8 + k) * 4 + 2))))) A := by
  unfold aX3_isBehind aX3_isBehind_b33
  have f0 := fun K : Int32 → q_St → Prop => a3_fig (nv := nv) (md := md) (Q := K) hb hs hn hk (w := 0) (by omega)
  have f2 := fun K : Int32 → q_St → Prop => a3_fig (nv := nv) (md := md) (Q := K) hb hs hn hk (w := 2) (by omega)
  rw [show nI 0 = 0 from rfl] at f0
  rw [show nI 2 = 2 from rfl] at f2
  simp only [f0, f2, zr_0, zr_1, Nat.add_zero]
  by_cases h1 : s < A (i + 2) ((b * 8 + k) * 4)
  · rw [brT h1, decide_eq_true (Or.inl h1)]; rfl
  · rw [brF h1]
    by_cases h2 : A (i + 2) ((b * 8 + k) * 4) = s
    · rw [brT' h2]
      by_cases h3 : A (i + 2) ((b * 8 + k) * 4 + 2) ≤ p
      · rw [brT h3, decide_eq_false]
        · rfl
        · rintro (q | q)
          · exact h1 q
          · rw [i_lt] at q; rw [i_le] at h3; omega
      · rw [brF h3, decide_eq_true]
        · rfl
        · refine Or.inr ⟨h2, ?_⟩
          rw [i_lt]; rw [i_le] at h3; omega
    · rw [brF' h2, decide_eq_false]
      · rfl
      · rintro (q | q)
        · exact h1 q
        · exact h2 q.1
/-- the slot's NOTES from k on stand one place further -/
def shf (A : q_St) (i b n k : Nat) : q_St := fun q m => if q = i + 2 ∧ (b * 8 + k + 1) * 4 ≤ m ∧ m < (b * 8 + n + 1) * 4 then A q (m - 4) else A q m
def insA (A : q_St) (i b n k : Nat) (s l p q : Int32) : q_St := fun j m => if j = i + 1 ∧ m = b then nI (n + 1) else if j = i + 2 ∧ (b * 8 + k) * 4 ≤ m ∧ m < (b * 8 + k) * 4 + 4 then nw4 s l p q (m - (b * 8 + k) * 4) else shf A i b n k j m
theorem a3_ins81 {Q : q_St → Prop} (hb : b < 40) (hn : n < 8) {k : Nat} (hk : k ≤ n) (s l p q : Int32) {A' : q_St} (hA : ∀ j m, A' j m = shf A i b n k j m) (hq : ∀ A'' : q_St, (∀ j m, A'' j m = insA A i b n k s l p q j m) → Q A'') : aX3_insert_b81 nv md Q i (nI b) s l p q (nI n) (nI k) A' := by
  unfold aX3_insert_b81
  rw [a3_place]
  simp only [e8, e4, e1, e0, show (2 : Int32) = nI 2 from rfl, show (3 : Int32) = nI 3 from rfl, pk_mul, nI_add]
  rw [a_s_n (by omega) (by omega), a_s_n (by omega) (by omega), a_s_n (by omega) (by omega), a_s_n (by omega) (by omega), a_s_n (by omega) (by omega)]
  refine hq _ (fun j m => ?_)
  simp only [qa, hA]
  unfold insA nw4
  by_cases h1 : j = i + 1 ∧ m = b
  · rw [if_pos h1, if_pos h1]
  · rw [if_neg h1, if_neg h1]
    by_cases h2 : j = i + 2 ∧ (b * 8 + k) * 4 ≤ m ∧ m < (b * 8 + k) * 4 + 4
    · rw [if_pos h2]
      obtain ⟨h3, h4, h5⟩ := h2
      rcases (show m = (b * 8 + k) * 4 ∨ m = (b * 8 + k) * 4 + 1 ∨ m = (b * 8 + k) * 4 + 2 ∨ m = (b * 8 + k) * 4 + 3 by omega) with e | e | e | e
      · rw [if_neg (by omega), if_neg (by omega), if_neg (by omega), if_pos (by omega), if_pos (by omega)]
      · rw [if_neg (by omega), if_neg (by omega), if_pos (by omega), if_neg (by omega), if_pos (by omega)]
      · rw [if_neg (by omega), if_pos (by omega), if_neg (by omega), if_neg (by omega), if_pos (by omega)]
      · rw [if_pos (by omega), if_neg (by omega), if_neg (by omega), if_neg (by omega)]
    · rw [if_neg h2, if_neg (by omega), if_neg (by omega), if_neg (by omega), if_neg (by omega)]
theorem a3_insL {Q : q_St → Prop} (hb : b < 40) (hs : A (i + 1) b = nI n) (hn : n < 8) (s l p q : Int32) {bh : Nat → Bool} (hbh : ∀ k, k < n → bh k = decide (s < A (i + 2) ((b * 8 + k) * 4) ∨ (A (i + 2) ((b * 8 + k) * 4) = s ∧ p < A (i + 2) ((b * 8 + k) * 4 + 2)))) : ∀ (f k : Nat) (A' : q_St), k ≤ n → k < f → (∀ j m, A' j m = shf A i b n k j m) → (∀ A'' : q_St, (∀ j m, A'' j m = insA A i b n (ip bh k) s l p q j m) → Q A'') → alX3_insert_b29 nv md Q f i (nI b) s l p q (nI n) (nI k) A' := by
  intro f
  induction f with
  | zero => intro k A' h1 h2; exact absurd h2 (by omega)
  | succ f ih =>
    intro k A' h1 h2 hA hq
    show aX3_insert_b29 nv md Q (alX3_insert_b29 nv md Q f) i (nI b) s l p q (nI n) (nI k) A'
    unfold aX3_insert_b29
    rw [e0, le_n (by omega) (by omega)]
    by_cases h : k ≤ 0
    · rw [brT h]
      exact a3_ins81 hb hn h1 s l p q hA (by rw [show k = 0 by omega] at hq ⊢; exact hq)
    · rw [brF h]
      obtain ⟨k', rfl⟩ : ∃ k', k = k' + 1 := ⟨k - 1, by omega⟩
      have ek : nI (k' + 1) - 1 = nI k' := nI_pred k'
      have sz : A' (i + 1) b = nI n := by rw [hA]; unfold shf; rw [if_neg (by omega)]; exact hs
      have r0 : A' (i + 2) ((b * 8 + k') * 4) = A (i + 2) ((b * 8 + k') * 4) := by rw [hA]; unfold shf; rw [if_neg (by omega)]
      have r2 : A' (i + 2) ((b * 8 + k') * 4 + 2) = A (i + 2) ((b * 8 + k') * 4 + 2) := by rw [hA]; unfold shf; rw [if_neg (by omega)]
      rw [ek, a3_behind hb sz (by omega) (by omega), r0, r2, ← hbh k' (by omega), ← e0, brD']
      have ei : ip bh (k' + 1) = if bh k' = true then ip bh k' else k' + 1 := rfl
      rw [ei] at hq
      by_cases hz : bh k' = true
      · rw [if_pos hz]
        rw [if_pos hz] at hq
        rw [a3_place, a3_place]
        simp only [e8, e4, pk_mul, nI_add]
        unfold a_cp
        refine ⟨by rw [i_lt, L_0, i_nI (by omega)]; omega, by rw [i_lt, L_0, i_nI (by omega)]; omega, by decide, by rw [cl_nI (by omega), cl_nI (by omega)]; omega, by rw [cl_nI (by omega), cl_nI (by omega)]; omega, ?_⟩
        rw [cl_nI (by omega), cl_nI (by omega), cl_nI (by omega), show nI (k' + 1) + (-1) = nI k' from pk_m1 k']
        refine ih k' _ (by omega) (by omega) (fun j m => ?_) hq
        by_cases hj : j = i + 2
        · subst hj
          simp only [if_true]
          unfold va_cpy
          rw [hA, hA]
          unfold shf
          by_cases g1 : (b * 8 + (k' + 1)) * 4 ≤ m ∧ m < (b * 8 + (k' + 1)) * 4 + 4
          · rw [if_pos g1, if_neg (by omega), if_pos (by omega)]
            congr 1
            omega
          · rw [if_neg g1]
            by_cases g2 : (b * 8 + (k' + 1) + 1) * 4 ≤ m ∧ m < (b * 8 + n + 1) * 4
            · rw [if_pos ⟨rfl, g2⟩, if_pos (by omega)]
            · rw [if_neg (by omega), if_neg (by omega)]
        · simp only [if_neg hj]
          rw [hA]
          unfold shf
          rw [if_neg (by omega), if_neg (by omega)]
      · rw [if_neg hz]
        rw [if_neg hz] at hq
        exact a3_ins81 hb hn h1 s l p q hA hq
theorem a3_insert {Q : q_St → Prop} (hb : b < 40) (hs : A (i + 1) b = nI n) (hn : n < 8) (s l p q : Int32) {bh : Nat → Bool} (hbh : ∀ k, k < n → bh k = decide (s < A (i + 2) ((b * 8 + k) * 4) ∨ (A (i + 2) ((b * 8 + k) * 4) = s ∧ p < A (i + 2) ((b * 8 + k) * 4 + 2)))) (hq : ∀ A'' : q_St, (∀ j m, A'' j m = insA A i b n (ip bh n) s l p q j m) → Q A'') : aX3_insert nv md i (nI b) s l p q Q A := by
  unfold aX3_insert
  rw [a3_size_n _ hb, hs]
  simp only [i_lt, i_le, L_0, L_40, L_8]
  rw [i_nI (by omega), i_nI (by omega), brF (by omega), brF (by omega), brT (by omega)]
  exact a3_insL hb hs hn s l p q hbh _ n A (by omega) (by unfold q_fuel; omega) (fun j m => by unfold shf; rw [if_neg (by omega)]) hq
end CINS
