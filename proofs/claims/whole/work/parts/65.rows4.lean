section CRS
variable {ad ad' : Nat → Nat} {nv nv' nb : Nat} {md md' : Nat → Bool} {A : q_St} {S S' S0 : q_S}
def sg (v q : Nat) : Nat := if 64 + 5 * v ≤ q ∧ q ≤ 64 + 5 * v + 4 then q + (30 - 5 * v) else if 94 ≤ q ∧ q ≤ 98 then q - (30 - 5 * v) else q
theorem sg_o {v q : Nat} (h : ¬ (64 + 5 * v ≤ q ∧ q ≤ 64 + 5 * v + 4)) (g : ¬ (94 ≤ q ∧ q ≤ 98)) : sg v q = q := by unfold sg; rw [if_neg h, if_neg g]
theorem sg_1 {v d : Nat} (hv : v < 6) (hd : d < 5) : sg v (64 + 5 * v + d) = 94 + d := by unfold sg; rw [if_pos (by omega)]; omega
theorem sg_2 {v d : Nat} (hv : v < 6) (hd : d < 5) : sg v (94 + d) = 64 + 5 * v + d := by unfold sg; rw [if_neg (by omega), if_pos (by omega)]; omega
theorem swp_sg {v q : Nat} : swp v A q = A (sg v q) := by
  unfold swp sg
  split
  · rfl
  · split <;> rfl
theorem sg_sg {v q : Nat} (hv : v < 6) : sg v (sg v q) = q := by
  by_cases h : 64 + 5 * v ≤ q ∧ q ≤ 64 + 5 * v + 4
  · obtain ⟨d, rfl⟩ : ∃ d, q = 64 + 5 * v + d := ⟨q - (64 + 5 * v), by omega⟩
    rw [sg_1 hv (by omega), sg_2 hv (by omega)]
  · by_cases g : 94 ≤ q ∧ q ≤ 98
    · obtain ⟨d, rfl⟩ : ∃ d, q = 94 + d := ⟨q - 94, by omega⟩
      rw [sg_2 hv (by omega), sg_1 hv (by omega)]
    · rw [sg_o h g, sg_o h g]
theorem sg_V {v i : Nat} (hv : v < 6) (hm : md v = true) (hi : q_V nv md i) : q_V nv md (sg v i) := by
  by_cases h : 64 + 5 * v ≤ i ∧ i ≤ 64 + 5 * v + 4
  · obtain ⟨d, rfl⟩ : ∃ d, i = 64 + 5 * v + d := ⟨i - (64 + 5 * v), by omega⟩
    rw [sg_1 hv (by omega)]
    exact q_p94.V (by omega)
  · by_cases g : 94 ≤ i ∧ i ≤ 98
    · obtain ⟨d, rfl⟩ : ∃ d, i = 94 + d := ⟨i - 94, by omega⟩
      rw [sg_2 hv (by omega)]
      exact (show q_PT md (64 + 5 * v) from Or.inl ⟨v, hv, hm, rfl⟩).V (by omega)
    · rw [sg_o h g]; exact hi
theorem cell_blk {b b' d : Nat} {c : Nat → Int32} (hn : nv ≤ 6) (hb : q_PT md b) (hb' : q_PT md b') (hd : d < 5) (he : ∀ e, e < 5 → ad' (b + e) = ad (b' + e)) : cellX ad' nv md (b + d) c = cellX ad nv md (b' + d) c := by
  have k1 := kX3 (ad := ad') (nv := nv) (md := md) hn (q_np hb) c
  have k2 := kX3 (ad := ad) (nv := nv) (md := md) hn (q_np hb') c
  have hd5 : d = 0 ∨ d = 1 ∨ d = 2 ∨ d = 3 ∨ d = 4 := by omega
  rcases hd5 with e | e | e | e | e
  · subst e
    show cellX ad' nv md b c = cellX ad nv md b' c
    rw [kX4 hb, kX4 hb', he 1 (by omega), he 2 (by omega)]
  · subst e
    rw [(isaX4_figures (nv := nv) hb).2 hn, (isaX4_figures (nv := nv) hb').2 hn]
  · subst e
    rw [k1.1, k2.1]
    show kO 2 [.ref (ad' (b + 3)), .ref (ad' (b + 4))] = kO 2 [.ref (ad (b' + 3)), .ref (ad (b' + 4))]
    rw [he 3 (by omega), he 4 (by omega)]
  · subst e
    exact k1.2.1.trans k2.2.1.symm
  · subst e
    exact k1.2.2.trans k2.2.2.symm
theorem rep_sw {v : Nat} (h : Rep ad nv md A S) (hv : v < nv) (hm : md v = true) : Rep (fun q => ad (sg v q)) nv md (swp v A) (va_up (va_up S (ad (16 + 4 * v)) (some (kO 5 [.int (A (16 + 4 * v) 0), .ref (ad (16 + 4 * v + 1)), .int (A (16 + 4 * v) 2), .int (A (16 + 4 * v) 3), .ref (ad 94)]))) (ad 0) (some (kO 6 [.ref (ad 1), .ref (ad 5), .ref (ad 8), .ref (ad (64 + 5 * v)), .int (A 0 4), .int (A 0 5)]))) := by
  have h6 := h.1
  have hv6 : v < 6 := by omega
  have vo : q_VO nv (16 + 4 * v) := ⟨v, hv, rfl⟩
  have vp : q_PT md (64 + 5 * v) := Or.inl ⟨v, hv6, hm, rfl⟩
  have v0 : q_V nv md 0 := Or.inl (by omega)
  refine ⟨h6, h.2.1, fun i j hi hj e => ?_, fun i hi => ?_⟩
  · have := h.2.2.1 _ _ (sg_V hv6 hm hi) (sg_V hv6 hm hj) e
    rw [← sg_sg (q := i) hv6, this, sg_sg hv6]
  · show va_up (va_up S _ _) _ _ (ad (sg v i)) = _
    rw [swp_sg]
    have bl : ∀ d, d < 5 → (i = 64 + 5 * v + d ∨ i = 94 + d) → va_up (va_up S (ad (16 + 4 * v)) (some (kO 5 [.int (A (16 + 4 * v) 0), .ref (ad (16 + 4 * v + 1)), .int (A (16 + 4 * v) 2), .int (A (16 + 4 * v) 3), .ref (ad 94)]))) (ad 0) (some (kO 6 [.ref (ad 1), .ref (ad 5), .ref (ad 8), .ref (ad (64 + 5 * v)), .int (A 0 4), .int (A 0 5)])) (ad (sg v i)) = some (cellX (fun q => ad (sg v q)) nv md i (A (sg v i))) := by
      intro d hd hi2
      have vs := sg_V hv6 hm hi
      have hr : sg v i ≠ 0 ∧ sg v i ≠ 16 + 4 * v := by
        rcases hi2 with e | e
        · rw [e, sg_1 hv6 hd]; omega
        · rw [e, sg_2 hv6 hd]; omega
      rw [va_up_ne _ _ (fun z => hr.1 (h.2.2.1 _ _ vs v0 z)), va_up_ne _ _ (fun z => hr.2 (h.2.2.1 _ _ vs vo.V z)), h.2.2.2 _ vs]
      refine congrArg some ?_
      rcases hi2 with e | e
      · subst e
        rw [sg_1 hv6 hd]
        exact (cell_blk h6 vp q_p94 hd (fun e he => by show ad (sg v _) = _; rw [sg_1 hv6 he])).symm
      · subst e
        rw [sg_2 hv6 hd]
        exact (cell_blk h6 q_p94 vp hd (fun e he => by show ad (sg v _) = _; rw [sg_2 hv6 he])).symm
    by_cases b1 : 64 + 5 * v ≤ i ∧ i ≤ 64 + 5 * v + 4
    · exact bl (i - (64 + 5 * v)) (by omega) (Or.inl (by omega))
    by_cases b2 : 94 ≤ i ∧ i ≤ 98
    · exact bl (i - 94) (by omega) (Or.inr (by omega))
    rw [sg_o b1 b2]
    by_cases e0 : i = 0
    · subst e0
      rw [va_up_self]
      show _ = some (kO 6 [.ref (ad (sg v 1)), .ref (ad (sg v 5)), .ref (ad (sg v 8)), .ref (ad (sg v 94)), .int (A 0 4), .int (A 0 5)])
      rw [sg_o (by omega) (by omega), sg_o (by omega) (by omega), sg_o (by omega) (by omega), show (94 : Nat) = 94 + 0 from rfl, sg_2 hv6 (by omega)]
      rfl
    rw [va_up_ne _ _ (fun z => e0 (h.2.2.1 i 0 hi v0 z))]
    by_cases e1 : i = 16 + 4 * v
    · subst e1
      rw [va_up_self, kX6 h6 vo, show (16 + 4 * v - 16) / 4 = v by omega, sg_o (by omega) (by omega)]
      unfold pq
      rw [hm]
      show _ = some (kO 5 [_, _, _, _, Value.ref (ad (sg v (64 + 5 * v + 0)))])
      rw [sg_1 hv6 (by omega)]
    rw [va_up_ne _ _ (fun z => e1 (h.2.2.1 i _ hi vo.V z)), h.2.2.2 i hi]
    by_cases e2 : i = 2
    · subst e2
      show some (kV 6 _) = some (kV 6 _)
      congr 2
      funext u
      by_cases y : u < nv
      · rw [if_pos y, if_pos y]
        show some (ad (16 + 4 * u)) = some (ad (sg v (16 + 4 * u)))
        rw [sg_o (by omega) (by omega)]
      · rw [if_neg y, if_neg y]
    have ao : ∀ q, ¬ (64 + 5 * v ≤ q ∧ q ≤ 64 + 5 * v + 4) → ¬ (94 ≤ q ∧ q ≤ 98) → (fun q => ad (sg v q)) q = ad q := fun q a b => by show ad (sg v q) = _; rw [sg_o a b]
    have rg : (i ≤ 10 ∨ (16 ≤ i ∧ i < 16 + 4 * nv)) ∨ (64 ≤ i ∧ i < 94) ∨ 128 ≤ i := by
      rcases hi with c | c | c | c | c | c
      · exact Or.inl (Or.inl c)
      · exact Or.inl (Or.inr c)
      · exact Or.inr (Or.inl ⟨c.1, c.2.1⟩)
      · omega
      · exact Or.inr (Or.inr (by omega))
      · have := ma_ge c; exact Or.inr (Or.inr (by omega))
    refine congrArg some (cell_c e2 (fun z => absurd z e0) (fun _ => ⟨?_, ?_⟩) (fun _ => ?_) (fun g => ?_) (fun g1 g2 g3 => ?_) (fun _ j g1 g2 => ?_) ?_).symm
    · exact ao _ (by omega) (by omega)
    · exact ao _ (by omega) (by omega)
    · exact ao _ (by omega) (by omega)
    · exact ⟨ao _ (by omega) (by omega), ao _ (by omega) (by omega)⟩
    · refine ⟨ao _ (by omega) (by omega), ?_⟩
      have g5 : (i - 16) / 4 ≠ v := by omega
      unfold pq
      cases md ((i - 16) / 4) with
      | false => rfl
      | true =>
        show some (ad (sg v (64 + 5 * ((i - 16) / 4)))) = some (ad (64 + 5 * ((i - 16) / 4)))
        rw [sg_o (by omega) (by omega)]
    · exact ao _ (by omega) (by omega)
    · omega
theorem EX7_renew {v : Nat} (h : Rep ad nv md A S) (hv : v < nv) (hm : md v = true) {Q1 : Int32 → q_St → Prop} {Q2 : Int32 → q_S → Prop} (ha : aX0_make nv md (16 + 4 * v) 94 (fun B => aX7_pagesAlike nv md (64 + 5 * v) 94 (fun r B1 => Q1 r (swp v B1)) B) A) (hq : ∀ ad' r A' S', ad' 0 = ad 0 → ad' 128 = ad 128 → Rep ad' nv md A' S' → Q1 r A' → Q2 r S') : wX7_renew (ad 0) (nI v) Q2 S := by
  have h6 := h.1
  have hv6 : v < 6 := by omega
  have vo : q_VO nv (16 + 4 * v) := ⟨v, hv, rfl⟩
  have vp : q_PT md (64 + 5 * v) := Or.inl ⟨v, hv6, hm, rfl⟩
  have ex : 0 ≤ (nI v).toInt ∧ (nI v).toInt < nv := by rw [i_nI (by omega)]; omega
  unfold wX7_renew
  refine ⟨⟨_, cX7 h⟩, _, _, cX7 h, rfl, ?_⟩
  refine EX5_voiceAt (Q1 := fun o A' => o = some (16 + 4 * v) ∧ A' = A) h ?_ (fun o A1 S1 ho h1 hQ => ?_)
  · unfold aX5_voiceAt
    rw [if_pos ex, cl_nI (by omega)]
    exact ⟨rfl, rfl⟩
  obtain ⟨e1, e2⟩ := hQ
  subst e1 e2
  refine ⟨_, _, cX7 h1, rfl, ?_⟩
  refine EX5_partOf (Q1 := fun o A' => o = some (64 + 5 * v) ∧ A' = A1) h1 ?_ (fun o A2 S2 ho h2 hQ => ?_)
  · rw [a5_partOf, if_pos ex, cl_nI (by omega)]
    unfold pq
    rw [hm]
    exact ⟨rfl, rfl⟩
  obtain ⟨e1, e2⟩ := hQ
  subst e1 e2
  refine ⟨fun z => absurd z (by simp), fun a ea => ⟨fun z => absurd z (by simp), fun b eb => ?_⟩⟩
  have ea' : ad (16 + 4 * v) = a := by simpa using ea
  have eb' : ad (64 + 5 * v) = b := by simpa using eb
  subst ea' eb'
  refine ⟨_, _, cX7 h2, rfl, _, _, cX7 h2, rfl, ?_⟩
  refine EX0_make h2 vo q_p94 ha (fun A3 S3 h3 hQ3 => ?_)
  refine ⟨_, _, cX7 h3, rfl, ?_⟩
  refine EX7_pagesAlike h3 vp q_p94 hQ3 (fun r A4 S4 h4 hQ4 => ?_)
  have v0 : q_V nv md 0 := Or.inl (by omega)
  have n0 : ad 0 ≠ ad (16 + 4 * v) := fun z => absurd (h4.2.2.1 0 _ v0 vo.V z) (by omega)
  refine ⟨_, _, cX7 h4, rfl, _, cX6 h4 vo, Nat.le_of_ble_eq_true rfl, ?_⟩
  refine ⟨_, (va_up_ne _ _ n0).trans (cX7 h4), Nat.le_of_ble_eq_true rfl, ?_⟩
  exact hq _ r _ _ (by show ad (sg v 0) = _; rw [sg_o (by omega) (by omega)]) (by show ad (sg v 128) = _; rw [sg_o (by omega) (by omega)]) (rep_sw h4 hv hm) hQ4
theorem EX7_renew_n {x : Int32} {Q2 : Int32 → q_S → Prop} (h : Rep ad nv md A S) (hx : ¬ ((0 ≤ x.toInt ∧ x.toInt < nv) ∧ md x.toNatClampNeg = true)) (hq : ∀ S', Rep ad nv md A S' → Q2 (-101 : Int32) S') : wX7_renew (ad 0) x Q2 S := by
  unfold wX7_renew
  refine ⟨⟨_, cX7 h⟩, _, _, cX7 h, rfl, ?_⟩
  refine EX5_voiceAt (Q1 := fun o A' => o = (if 0 ≤ x.toInt ∧ x.toInt < nv then some (16 + 4 * x.toNatClampNeg) else none) ∧ A' = A) h ⟨rfl, rfl⟩ (fun o A1 S1 ho h1 hQ => ?_)
  obtain ⟨e1, e2⟩ := hQ
  subst e1 e2
  refine ⟨_, _, cX7 h1, rfl, ?_⟩
  refine EX5_partOf (Q1 := fun o A' => o = (if 0 ≤ x.toInt ∧ x.toInt < nv then pq md x.toNatClampNeg else none) ∧ A' = A1) h1 ?_ (fun o A2 S2 ho h2 hQ => ?_)
  · rw [a5_partOf]
    exact ⟨rfl, rfl⟩
  obtain ⟨e1, e2⟩ := hQ
  subst e1 e2
  refine ⟨fun _ => hq _ h2, fun a ea => ⟨fun _ => hq _ h2, fun b eb => ?_⟩⟩
  exfalso
  by_cases c : 0 ≤ x.toInt ∧ x.toInt < nv
  · rw [if_pos c] at eb
    unfold pq at eb
    by_cases m : md x.toNatClampNeg = true
    · exact hx ⟨c, m⟩
    · rw [if_neg m] at eb
      exact absurd eb (by simp)
  · rw [if_neg c] at eb
    exact absurd eb (by simp)
theorem EX7_extract_n {x : Int32} {Q2 : Int32 → q_S → Prop} (h : Rep ad nv md A S) (hx : ¬ (0 ≤ x.toInt ∧ x.toInt < nv)) (hq : ∀ S', Rep ad nv md A S' → Q2 (-101 : Int32) S') : wX7_extract (ad 0) x Q2 S := by
  unfold wX7_extract
  refine ⟨⟨_, cX7 h⟩, _, _, cX7 h, rfl, ?_⟩
  refine EX5_voiceAt (Q1 := fun o A' => o = none ∧ A' = A) h ?_ (fun o A1 S1 ho h1 hQ => ?_)
  · unfold aX5_voiceAt
    rw [if_neg hx]
    exact ⟨rfl, rfl⟩
  obtain ⟨e1, e2⟩ := hQ
  subst e1 e2
  exact ⟨fun _ => hq _ h1, fun a ea => absurd ea (by simp)⟩
theorem op_renew_n (C : Corr nv md nb A) {x : Int32} (hx : ¬ ((0 ≤ x.toInt ∧ x.toInt < nv) ∧ md x.toNatClampNeg = true)) : aX8_renew nv md x (fun r2 A2 => (-101 : Int32) = r2 ∧ Corr nv md nb A2) A := by
  unfold aX8_renew
  rw [a8_isPart C, brB, if_neg hx]
  exact ⟨rfl, C⟩
theorem op_extract_n (C : Corr nv md nb A) {x : Int32} (hx : ¬ (0 ≤ x.toInt ∧ x.toInt < nv)) : aX8_extract nv md x (fun r2 A2 => (-101 : Int32) = r2 ∧ Corr nv md nb A2) A := by
  unfold aX8_extract
  rw [a8_isVoice C.1.2.2.2.1 C.1.1, brB, if_neg hx]
  exact ⟨rfl, C⟩
end CRS
