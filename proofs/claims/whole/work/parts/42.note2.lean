def fJ (x : Int32) : Int32 := if 0 ≤ (x ^^^ 12) then x - x / 12 * 12 else if x - x / 12 * 12 = 0 then x - x / 12 * 12 else x - x / 12 * 12 + 12
def f8 (x : Int32) : Int32 := if 0 ≤ x - x / 12 * 12 then x - x / 12 * 12 else x - x / 12 * 12 + 12
theorem fJ8 : ∀ n, n < 35 → fJ (7 * (nI n - 15)) = f8 (7 * (nI n - 15)) := by decide +kernel
theorem fJ8x {x : Int32} (h1 : -15 ≤ x.toInt) (h2 : x.toInt ≤ 19) : fJ (7 * x) = f8 (7 * x) := by
  have e : x = nI (x.toInt + 15).toNat - 15 := by
    rw [i_eq, i_sub, i_nI (by omega), show (15 : Int32).toInt = 15 from by decide]
    · omega
    · rw [i_nI (by omega), show (15 : Int32).toInt = 15 from by decide]; omega
    · rw [i_nI (by omega), show (15 : Int32).toInt = 15 from by decide]; omega
  rw [e]
  exact fJ8 _ (by omega)
/-- a NOTE as told -/
def nOK (s l p q : Int32) : Prop := (0 ≤ s.toInt ∧ s.toInt ≤ 47) ∧ (1 ≤ l.toInt ∧ l.toInt ≤ ((48 : Int32) - s).toInt) ∧ (0 ≤ p.toInt ∧ p.toInt ≤ 127) ∧ (-15 ≤ q.toInt ∧ q.toInt ≤ 19) ∧ f8 (7 * q) = p - p / 12 * 12
section CNOTE2
variable {nv nb : Nat} {md : Nat → Bool} {Q : Int32 → q_St → Prop} {A : q_St}
theorem aJ_fm (x : Int32) : aJ9_floorMod_7cf53 x 12 Q A = Q (fJ x) A := by
  unfold aJ9_floorMod_7cf53 fJ
  have h : ¬ (12 : Int32) = 0 := by decide
  simp only [h, not_false_iff, true_and]
  by_cases h1 : 0 ≤ (x ^^^ 12)
  · rw [brT h1, if_pos h1]
  · rw [brF h1, if_neg h1]
    by_cases h2 : x - x / 12 * 12 = 0
    · rw [brT h2, if_pos h2]
    · rw [brF h2, if_neg h2]
theorem a8_fm (x : Int32) : aX8_floorMod nv md x 12 Q A = Q (f8 x) A := by
  unfold aX8_floorMod f8
  have h : ¬ (12 : Int32) = 0 := by decide
  simp only [h, not_false_iff, true_and]
  by_cases h1 : 0 ≤ x - x / 12 * 12
  · rw [brT h1, if_pos h1]
  · rw [brF h1, if_neg h1]
theorem a7_isNote (s l p q : Int32) {d : Bool} (hd : d = true ↔ nOK s l p q) : aX7_isNote nv md s l p q Q A = Q (bI d) A := by
  unfold aX7_isNote
  simp only [a7_within, aJ_fm, brB', zr_0, zr_1, L_0, L_47, L_1, L_127, M_15, L_19]
  unfold nOK at hd
  by_cases h1 : 0 ≤ s.toInt ∧ s.toInt ≤ 47
  · by_cases h2 : 1 ≤ l.toInt ∧ l.toInt ≤ ((48 : Int32) - s).toInt
    · by_cases h3 : 0 ≤ p.toInt ∧ p.toInt ≤ 127
      · by_cases h4 : -15 ≤ q.toInt ∧ q.toInt ≤ 19
        · rw [if_pos h1, if_pos h2, if_pos h3, if_pos h4, fJ8x h4.1 h4.2]
          by_cases h5 : f8 (7 * q) = p - p / 12 * 12
          · rw [brT' h5, hd.mpr ⟨h1, h2, h3, h4, h5⟩]; rfl
          · rw [brF' h5]
            have : d = false := by cases d; rfl; exact absurd (hd.mp rfl).2.2.2.2 h5
            rw [this]; rfl
        · rw [if_pos h1, if_pos h2, if_pos h3, if_neg h4]
          have : d = false := by cases d; rfl; exact absurd (hd.mp rfl).2.2.2.1 h4
          rw [this]; rfl
      · rw [if_pos h1, if_pos h2, if_neg h3]
        have : d = false := by cases d; rfl; exact absurd (hd.mp rfl).2.2.1 h3
        rw [this]; rfl
    · rw [if_pos h1, if_neg h2]
      have : d = false := by cases d; rfl; exact absurd (hd.mp rfl).2.1 h2
      rw [this]; rfl
  · rw [if_neg h1]
    have : d = false := by cases d; rfl; exact absurd (hd.mp rfl).1 h1
    rw [this]; rfl
theorem a8_note {x y s l p q : Int32} (h0 : A 128 0 = nI nv) (h1 : A 128 1 = nI nb) (hv : nv ≤ 6) (hb : nb ≤ 40) {d : Bool} (hd : d = true ↔ nOK s l p q) : aX8_note nv md x y s l p q Q A = if 0 ≤ x.toInt ∧ x.toInt < nv then (if 0 ≤ y.toInt ∧ y.toInt < nb then (if d = true then alX8_note_b97 nv md Q q_fuel s l p q (40 * x + y) 0 A else Q (-102) A) else Q (-101) A) else Q (-101) A := by
  unfold aX8_note
  simp only [a8_isVoice h0 hv, a8_isBar h1 hb, a8_in, a8_fm, brB, brB', L_0, L_47, L_1, L_127, M_15, L_19]
  unfold nOK at hd
  by_cases g1 : 0 ≤ x.toInt ∧ x.toInt < nv
  · rw [if_pos g1, if_pos g1]
    by_cases g2 : 0 ≤ y.toInt ∧ y.toInt < nb
    · rw [if_pos g2, if_pos g2]
      by_cases h1 : 0 ≤ s.toInt ∧ s.toInt ≤ 47
      · by_cases h2 : 1 ≤ l.toInt ∧ l.toInt ≤ ((48 : Int32) - s).toInt
        · by_cases h3 : 0 ≤ p.toInt ∧ p.toInt ≤ 127
          · by_cases h4 : -15 ≤ q.toInt ∧ q.toInt ≤ 19
            · rw [if_pos h1, if_pos h2, if_pos h3, if_pos h4]
              by_cases h5 : f8 (7 * q) = p - p / 12 * 12
              · rw [brT h5, if_pos (hd.mpr ⟨h1, h2, h3, h4, h5⟩)]
              · rw [brF h5, if_neg (fun z => h5 (hd.mp z).2.2.2.2)]
            · rw [if_pos h1, if_pos h2, if_pos h3, if_neg h4, if_neg (fun z => h4 (hd.mp z).2.2.2.1)]
          · rw [if_pos h1, if_pos h2, if_neg h3, if_neg (fun z => h3 (hd.mp z).2.2.1)]
        · rw [if_pos h1, if_neg h2, if_neg (fun z => h2 (hd.mp z).2.1)]
      · rw [if_neg h1, if_neg (fun z => h1 (hd.mp z).1)]
    · rw [if_neg g2, if_neg g2]
  · rw [if_neg g1, if_neg g1]
theorem note_nt (C : Corr nv md nb A) {v b n P : Nat} (hv : v < 6) (hb : b < 40) (hn : n = cnt A v b) (h8 : n < 8) {s l p q : Int32} (hok : nOK s l p q) (hne : ∀ k, k < n → ¬ (A 133 (8 * (40 * v + b) + k) = s ∧ A 135 (8 * (40 * v + b) + k) = p)) (hP : P = ip (bh8 A (40 * v + b) s p) n) {A2 : q_St} (hA : ∀ j m, 132 ≤ j → j ≤ 136 → A2 j m = ins8 A (40 * v + b) n P s l p q j m) : cNt A2 := by
  have hPn : P ≤ n := by rw [hP]; exact ip_le _ n
  have hc : ∀ u c, u < 6 → c < 40 → cnt A2 u c = if u = v ∧ c = b then n + 1 else cnt A u c := by
    intro u c hu hc
    unfold cnt
    rw [hA 132 _ (by omega) (by omega)]
    unfold ins8
    by_cases e : u = v ∧ c = b
    · rw [if_pos (by omega), if_pos e, cl_nI (by omega)]
    · rw [if_neg (by omega), if_neg (by omega), if_neg e]
      unfold shf8
      rw [if_neg (by omega)]
  have oth : ∀ u c k w, u < 6 → c < 40 → k < 8 → w < 4 → ¬ (u = v ∧ c = b) → A2 (133 + w) (8 * (40 * u + c) + k) = A (133 + w) (8 * (40 * u + c) + k) := by
    intro u c k w hu hc hk hw e
    rw [hA _ _ (by omega) (by omega)]
    unfold ins8 shf8
    rw [if_neg (by omega), if_neg (by omega), if_neg (by omega)]
  have own : ∀ k w, k < 8 → w < 4 → A2 (133 + w) (8 * (40 * v + b) + k) = if k = P then nw4 s l p q w else if P < k ∧ k ≤ n then A (133 + w) (8 * (40 * v + b) + (k - 1)) else A (133 + w) (8 * (40 * v + b) + k) := by
    intro k w hk hw
    rw [hA _ _ (by omega) (by omega)]
    unfold ins8 shf8
    rw [if_neg (by omega)]
    by_cases e : k = P
    · rw [if_pos (by omega), if_pos e, show 133 + w - 133 = w by omega]
    · rw [if_neg (by omega), if_neg e]
      by_cases e2 : P < k ∧ k ≤ n
      · rw [if_pos (by omega), if_pos e2, show 8 * (40 * v + b) + k - 1 = 8 * (40 * v + b) + (k - 1) by omega]
      · rw [if_neg (by omega), if_neg e2]
  obtain ⟨⟨o1, o2⟩, ⟨o3, o4⟩, ⟨o5, o6⟩, ⟨o7, o8⟩, -⟩ := hok
  have o48 : ((48 : Int32) - s).toInt = 48 - s.toInt := by rw [i_sub, L_48] <;> (rw [L_48]; omega)
  intro u c k hu hc2 hk
  rw [hc u c hu hc2] at hk ⊢
  by_cases e : u = v ∧ c = b
  · rw [if_pos e] at hk ⊢
    obtain ⟨rfl, rfl⟩ := e
    have f0 : ∀ k, k < 8 → A2 133 (8 * (40 * u + c) + k) = if k = P then s else if P < k ∧ k ≤ n then A 133 (8 * (40 * u + c) + (k - 1)) else A 133 (8 * (40 * u + c) + k) := fun k hk => own k 0 hk (by omega)
    have f1 : ∀ k, k < 8 → A2 134 (8 * (40 * u + c) + k) = if k = P then l else if P < k ∧ k ≤ n then A 134 (8 * (40 * u + c) + (k - 1)) else A 134 (8 * (40 * u + c) + k) := fun k hk => own k 1 hk (by omega)
    have f2 : ∀ k, k < 8 → A2 135 (8 * (40 * u + c) + k) = if k = P then p else if P < k ∧ k ≤ n then A 135 (8 * (40 * u + c) + (k - 1)) else A 135 (8 * (40 * u + c) + k) := fun k hk => own k 2 hk (by omega)
    have f3 : ∀ k, k < 8 → A2 136 (8 * (40 * u + c) + k) = if k = P then q else if P < k ∧ k ≤ n then A 136 (8 * (40 * u + c) + (k - 1)) else A 136 (8 * (40 * u + c) + k) := fun k hk => own k 3 hk (by omega)
    refine ⟨?_, fun hk2 => ?_⟩
    · unfold nok
      rw [f0 k (by omega), f1 k (by omega), f2 k (by omega), f3 k (by omega)]
      by_cases g1 : k = P
      · simp only [if_pos g1]; omega
      · by_cases g2 : P < k ∧ k ≤ n
        · simp only [if_neg g1, if_pos g2]
          exact (C.2.2.1 u c (k - 1) hu hc2 (by omega)).1
        · simp only [if_neg g1, if_neg g2]
          exact (C.2.2.1 u c k hu hc2 (by omega)).1
    · unfold lexlt
      rw [f0 k (by omega), f2 k (by omega), f0 (k + 1) (by omega), f2 (k + 1) (by omega)]
      by_cases g1 : k = P
      · have q1 : ¬ k + 1 = P := by omega
        have q2 : P < k + 1 ∧ k + 1 ≤ n := by omega
        simp only [if_pos g1, if_neg q1, if_pos q2, show k + 1 - 1 = k by omega]
        have hb := ip_bh (bh := bh8 A (40 * u + c) s p) (n := n) (k := k) (by omega) (by omega)
        have hb2 := of_decide_eq_true hb
        rw [i_lt, i_lt, i_eq] at hb2
        omega
      · by_cases g2 : k + 1 = P
        · have q1 : ¬ (P < k ∧ k ≤ n) := by omega
          simp only [if_neg g1, if_neg q1, if_pos g2]
          have hb := ip_nb (bh := bh8 A (40 * u + c) s p) (n := n) (k := k) (by omega)
          have hb2 := of_decide_eq_false hb
          have hb3 := hne k (by omega)
          rw [i_lt, i_lt, i_eq] at hb2
          rw [i_eq, i_eq] at hb3
          omega
        · by_cases g3 : P < k
          · have q1 : P < k ∧ k ≤ n := by omega
            have q2 : P < k + 1 ∧ k + 1 ≤ n := by omega
            simp only [if_neg g1, if_pos q1, if_neg g2, if_pos q2, show k + 1 - 1 = k by omega]
            have z := (C.2.2.1 u c (k - 1) hu hc2 (by omega)).2 (by omega)
            unfold lexlt at z
            rw [show k - 1 + 1 = k by omega] at z
            exact z
          · have q1 : ¬ (P < k ∧ k ≤ n) := by omega
            have q2 : ¬ (P < k + 1 ∧ k + 1 ≤ n) := by omega
            simp only [if_neg g1, if_neg q1, if_neg g2, if_neg q2]
            exact (C.2.2.1 u c k hu hc2 (by omega)).2 (by omega)
  · rw [if_neg e] at hk ⊢
    have h8' := (C.2.1.2.2.1 u c hu hc2).1
    have f0 : ∀ k, k < 8 → A2 133 (8 * (40 * u + c) + k) = A 133 (8 * (40 * u + c) + k) := fun k hk => oth u c k 0 hu hc2 hk (by omega) e
    have f1 : ∀ k, k < 8 → A2 134 (8 * (40 * u + c) + k) = A 134 (8 * (40 * u + c) + k) := fun k hk => oth u c k 1 hu hc2 hk (by omega) e
    have f2 : ∀ k, k < 8 → A2 135 (8 * (40 * u + c) + k) = A 135 (8 * (40 * u + c) + k) := fun k hk => oth u c k 2 hu hc2 hk (by omega) e
    have f3 : ∀ k, k < 8 → A2 136 (8 * (40 * u + c) + k) = A 136 (8 * (40 * u + c) + k) := fun k hk => oth u c k 3 hu hc2 hk (by omega) e
    refine ⟨?_, fun hk2 => ?_⟩
    · unfold nok
      rw [f0 k (by omega), f1 k (by omega), f2 k (by omega), f3 k (by omega)]
      exact (C.2.2.1 u c k hu hc2 hk).1
    · unfold lexlt
      rw [f0 k (by omega), f2 k (by omega), f0 (k + 1) (by omega), f2 (k + 1) (by omega)]
      exact (C.2.2.1 u c k hu hc2 hk).2 hk2
end CNOTE2
