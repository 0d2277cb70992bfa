section CNOTE3
variable {nv nb : Nat} {md : Nat → Bool} {A : q_St}
theorem note_tb (C : Corr nv md nb A) {v b n P : Nat} (hv : v < nv) (hb : b < nb) (hn : n = cnt A v b) (h8 : n < 8) {s l p q : Int32} (hP : P ≤ n) {A1 A2 : q_St} (h1 : ∀ j m, A1 j m = insA A (16 + 4 * v + 1) b n P s l p q j m) (h2 : ∀ j m, A2 j m = ins8 A1 (40 * v + b) n P s l p q j m) : cTb nv nb A2 := by
  obtain ⟨d1, d2, d3, d4, d5, d6, d7⟩ := C.1
  obtain ⟨t1, t2, t3, t4, t5⟩ := C.2.1
  have k1 : ∀ j m, j ≠ 18 + 4 * v → j ≠ 19 + 4 * v → A1 j m = A j m := by
    intro j m a c
    rw [h1]
    unfold insA shf
    rw [if_neg (by omega), if_neg (by omega), if_neg (by omega)]
  have k2 : ∀ j m, ¬ (132 ≤ j ∧ j ≤ 136) → A2 j m = A1 j m := by
    intro j m a
    rw [h2]
    unfold ins8 shf8
    rw [if_neg (by omega), if_neg (by omega), if_neg (by omega)]
  have k3 : ∀ m, A2 132 m = if m = 40 * v + b then nI (n + 1) else A 132 m := by
    intro m
    rw [h2]
    unfold ins8 shf8
    by_cases e : m = 40 * v + b
    · rw [if_pos (by omega), if_pos e]
    · rw [if_neg (by omega), if_neg (by omega), if_neg (by omega), if_neg e, k1 _ _ (by omega) (by omega)]
  have hc : ∀ u c, u < 6 → c < 40 → cnt A2 u c = if u = v ∧ c = b then n + 1 else cnt A u c := by
    intro u c hu hc
    unfold cnt
    rw [k3]
    by_cases e : u = v ∧ c = b
    · rw [if_pos (by omega), if_pos e, cl_nI (by omega)]
    · rw [if_neg (by omega), if_neg e]
  have k4 : ∀ u c k w, u < 6 → c < 40 → k < 8 → w < 4 → A2 (133 + w) (8 * (40 * u + c) + k) = if u = v ∧ c = b then (if k = P then nw4 s l p q w else if P < k ∧ k ≤ n then A (133 + w) (8 * (40 * v + b) + (k - 1)) else A (133 + w) (8 * (40 * u + c) + k)) else A (133 + w) (8 * (40 * u + c) + k) := by
    intro u c k w hu hc hk hw
    rw [h2]
    unfold ins8 shf8
    rw [if_neg (by omega)]
    by_cases e : u = v ∧ c = b
    · rw [if_pos e]
      by_cases e1 : k = P
      · rw [if_pos (by omega), if_pos e1, show 133 + w - 133 = w by omega]
      · rw [if_neg (by omega), if_neg e1]
        by_cases e2 : P < k ∧ k ≤ n
        · rw [if_pos (by omega), if_pos e2, k1 _ _ (by omega) (by omega)]
          congr 1
          omega
        · rw [if_neg (by omega), if_neg e2, k1 _ _ (by omega) (by omega)]
    · rw [if_neg (by omega), if_neg (by omega), if_neg e, k1 _ _ (by omega) (by omega)]
  refine ⟨fun u c hu hc => ?_, fun u c k w hu hc hk hw => ?_, fun u c hu hc2 => ?_, fun u c hu hc2 h => ?_, fun u c k w h hu hc hk hw => ?_⟩
  · rw [k2 _ _ (by omega), k3, h1]
    unfold insA shf
    by_cases e : u = v ∧ c = b
    · rw [if_pos (by omega), if_pos (by omega)]
    · rw [if_neg (by omega), if_neg (by omega), if_neg (by omega), if_neg (by omega)]
      exact t1 u c hu hc
  · rw [k2 _ _ (by omega), k4 u c k w (by omega) hc hk hw, h1]
    unfold insA
    rw [if_neg (by omega)]
    by_cases e : u = v ∧ c = b
    · obtain ⟨rfl, rfl⟩ := e
      rw [if_pos (show u = u ∧ c = c from ⟨rfl, rfl⟩)]
      by_cases e1 : k = P
      · rw [if_pos (by omega), if_pos e1]
        congr 1
        omega
      · rw [if_neg (by omega), if_neg e1]
        unfold shf
        by_cases e2 : P < k ∧ k ≤ n
        · rw [if_pos (by omega), if_pos e2, show (c * 8 + k) * 4 + w - 4 = (c * 8 + (k - 1)) * 4 + w by omega]
          exact t2 u c (k - 1) w (by omega) (by omega) (by omega) hw
        · rw [if_neg (by omega), if_neg e2]
          exact t2 u c k w (by omega) (by omega) hk hw
    · rw [if_neg e, if_neg (by omega)]
      unfold shf
      rw [if_neg (by omega)]
      exact t2 u c k w hu hc hk hw
  · rw [hc u c hu hc2, k3]
    by_cases e : u = v ∧ c = b
    · rw [if_pos e, if_pos (by omega)]; exact ⟨by omega, rfl⟩
    · rw [if_neg e, if_neg (by omega)]; exact t3 u c hu hc2
  · rw [hc u c hu hc2, if_neg (by omega)]
    exact t4 u c hu hc2 h
  · rw [k4 u c k w hu hc hk hw, if_neg (by omega)]
    exact t5 u c k w h hu hc hk hw
theorem op_note (C : Corr nv md nb A) (x y s l p q : Int32) : aX7_note nv md x y s l p q (fun r A1 => aX8_note nv md x y s l p q (fun r2 A2 => r = r2 ∧ Corr nv md nb A2) A1) A := by
  obtain ⟨d1, d2, d3, d4, d5, d6, d7⟩ := C.1
  obtain ⟨d, hd⟩ : ∃ d : Bool, d = true ↔ nOK s l p q := by
    by_cases h : nOK s l p q
    · exact ⟨true, by simp [h]⟩
    · exact ⟨false, by simp [h]⟩
  unfold aX7_note aX5_voiceAt
  simp only [brO, a5_hasBar d5 d2, brB]
  by_cases h1 : 0 ≤ x.toInt ∧ x.toInt < nv
  · rw [if_pos h1]
    by_cases h2 : 0 ≤ y.toInt ∧ y.toInt < nb
    · rw [if_pos h2, a7_isNote s l p q hd, brD]
      by_cases h3 : d = true
      · rw [if_pos h3]
        obtain ⟨v, hv, rfl⟩ := i_of h1.1 h1.2 (by omega)
        obtain ⟨b, hb, rfl⟩ := i_of h2.1 h2.2 (by omega)
        rw [cl_nI (by omega)]
        have T := vT C hv (b := b) (by omega)
        have h8 := T.2.2.1
        have hm : A 132 (40 * v + b) = nI (cnt A v b) := (C.2.1.2.2.1 v b (by omega) (by omega)).2
        rw [a3_hasAt T, brD']
        have hex : exB (fun k => decide (ng A v b k 0 = s ∧ ng A v b k 2 = p)) (cnt A v b) = exB (fun k => decide (A 133 (8 * (40 * v + b) + k) = s ∧ A 135 (8 * (40 * v + b) + k) = p)) (cnt A v b) := rfl
        rw [hex]
        have en : (40 : Int32) * nI v + nI b = nI (40 * v + b) := n_ma 40 v b
        by_cases h4 : exB (fun k => decide (A 133 (8 * (40 * v + b) + k) = s ∧ A 135 (8 * (40 * v + b) + k) = p)) (cnt A v b) = true
        · rw [if_pos h4, a8_note d4 d6 d1 d2 hd, if_pos h1, if_pos h2, if_pos h3, en, e0]
          refine a8_noteL (by omega) h8 hm s l p q (fun _ => ⟨rfl, C⟩) (fun z => ?_) (fun z => ?_) _ 0 (by omega) (by unfold q_fuel; omega) (fun j hj => absurd hj (by omega))
          · rw [h4] at z; cases z
          · rw [h4] at z; cases z
        · rw [if_neg h4, a3_sizeT T, e8, lt_n (by omega) (by omega)]
          have h4' : exB (fun k => decide (A 133 (8 * (40 * v + b) + k) = s ∧ A 135 (8 * (40 * v + b) + k) = p)) (cnt A v b) = false := by simpa using h4
          by_cases h5 : cnt A v b < 8
          · rw [brT h5]
            refine a3_insert (n := cnt A v b) (bh := bh8 A (40 * v + b) s p) (by omega) T.2.1 h5 s l p q (fun k hk => ?_) (fun A1 hA1 => ?_)
            · unfold bh8
              have z0 : A (16 + 4 * v + 1 + 2) ((b * 8 + k) * 4) = ng A v b k 0 := T.2.2.2 k 0 hk (by omega)
              have z2 := T.2.2.2 k 2 hk (by omega)
              rw [z0, z2]
              rfl
            · have sz : A1 (16 + 4 * v + 1 + 1) b = nI (cnt A v b + 1) := by
                rw [hA1]; unfold insA; rw [if_pos ⟨rfl, rfl⟩]
              rw [a3_size_n _ (by omega), sz]
              have k1 : ∀ j m, j ≠ 18 + 4 * v → j ≠ 19 + 4 * v → A1 j m = A j m := by
                intro j m a c
                rw [hA1]
                unfold insA shf
                rw [if_neg (by omega), if_neg (by omega), if_neg (by omega)]
              rw [a8_note (by rw [k1 _ _ (by omega) (by omega)]; exact d4) (by rw [k1 _ _ (by omega) (by omega)]; exact d6) d1 d2 hd, if_pos h1, if_pos h2, if_pos h3, en, e0]
              have f133 : A1 133 = A 133 := funext fun m => k1 _ m (by omega) (by omega)
              have f135 : A1 135 = A 135 := funext fun m => k1 _ m (by omega) (by omega)
              refine a8_noteL (A := A1) (by omega) h8 (by rw [k1 _ _ (by omega) (by omega)]; exact hm) s l p q (fun z => ?_) (fun _ z => ?_) (fun _ _ A2 hA2 => ⟨rfl, ?_⟩) _ 0 (by omega) (by unfold q_fuel; omega) (fun j hj => absurd hj (by omega))
              · rw [f133, f135, h4'] at z; cases z
              · omega
              · have eb : bh8 A1 (40 * v + b) s p = bh8 A (40 * v + b) s p := by
                  funext k
                  unfold bh8
                  rw [f133, f135]
                rw [eb] at hA2
                refine C.tb (note_tb C hv hb rfl h5 (ip_le _ _) hA1 hA2) (note_nt C (by omega) (by omega) rfl h5 (hd.mp h3) (fun k hk z => h4 (exB_iff.mpr ⟨k, hk, decide_eq_true z⟩)) rfl (fun j m a c => ?_)) (fun i a c => funext fun m => ?_)
                · rw [hA2]
                  unfold ins8 shf8
                  rw [k1 j _ (by omega) (by omega), k1 j _ (by omega) (by omega)]
                · rw [hA2]
                  unfold ins8 shf8
                  rw [if_neg (by omega), if_neg (by omega), if_neg (by omega), k1 _ _ (by omega) (by omega)]
          · rw [brF h5, a8_note d4 d6 d1 d2 hd, if_pos h1, if_pos h2, if_pos h3, en, e0]
            refine a8_noteL (by omega) h8 hm s l p q (fun z => ?_) (fun _ _ => ⟨rfl, C⟩) (fun _ z => ?_) _ 0 (by omega) (by unfold q_fuel; omega) (fun j hj => absurd hj (by omega))
            · rw [h4'] at z; cases z
            · omega
      · rw [if_neg h3, a8_note d4 d6 d1 d2 hd, if_pos h1, if_pos h2, if_neg h3]; exact ⟨rfl, C⟩
    · rw [if_neg h2, a8_note d4 d6 d1 d2 hd, if_pos h1, if_neg h2]; exact ⟨rfl, C⟩
  · rw [if_neg h1, a8_note d4 d6 d1 d2 hd, if_neg h1]; exact ⟨rfl, C⟩
end CNOTE3
