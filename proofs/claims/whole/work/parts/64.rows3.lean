section CRX
variable {ad ad' : Nat → Nat} {nv nv' nb : Nat} {md md' : Nat → Bool} {A : q_St} {S S' S0 : q_S}
theorem op_voice (C : Corr nv md nb A) (hn : nv < 6) : aX8_voice (nv + 1) md (fun r2 A2 => nI nv = r2 ∧ Corr (nv + 1) md nb A2) (vcA nv A) := by
  obtain ⟨⟨d1, d2, d3, d4, d5, d6, d7⟩, ⟨t1, t2, t3, t4, t5⟩, n, m, ⟨v1, v2, v3⟩, pg, pt⟩ := C
  have o : ∀ i, i ≠ 1 → ¬ (16 + 4 * nv ≤ i ∧ i ≤ 19 + 4 * nv) → vcA nv A i = A i := fun i a b => by
    unfold vcA
    rw [if_neg a, if_neg (by omega), if_neg (by omega)]
  have o1 : vcA nv A 1 = upd (A 1) 2 (nI (nv + 1)) := if_pos rfl
  have e0 : vcA nv A 128 0 = nI nv := by rw [o _ (by omega) (by omega)]; exact d4
  unfold aX8_voice
  rw [e0, show (6 : Int32) = nI 6 from rfl, eq_n (by omega) (by omega), brF' (by omega), e1, nI_add]
  show nI nv = (q_u (vcA nv A) 128 0 (nI (nv + 1)) 128 0) - nI 1 ∧ _
  rw [qh]
  have hs : nI (nv + 1) - nI 1 = nI nv := by
    rw [← nI_add]
    exact Int32.add_sub_cancel _ _
  refine ⟨hs.symm, ?_⟩
  have p : ∀ i k, i ≠ 1 → ¬ (16 + 4 * nv ≤ i ∧ i ≤ 19 + 4 * nv) → i ≠ 128 ∨ k ≠ 0 → q_u (vcA nv A) 128 0 (nI (nv + 1)) i k = A i k := fun i k a b c => by
    rw [qa, if_neg (by omega), o i a b]
  have pa : ∀ i, i ≠ 1 → ¬ (16 + 4 * nv ≤ i ∧ i ≤ 19 + 4 * nv) → i ≠ 128 → q_u (vcA nv A) 128 0 (nI (nv + 1)) i = A i := fun i a b c => funext fun k => p i k a b (Or.inl c)
  have p1 : ∀ k, k ≠ 2 → q_u (vcA nv A) 128 0 (nI (nv + 1)) 1 k = A 1 k := fun k hk => by
    rw [qn (by omega), o1]; exact if_neg hk
  have hz : ∀ i k, 17 + 4 * nv ≤ i → i ≤ 19 + 4 * nv → q_u (vcA nv A) 128 0 (nI (nv + 1)) i k = 0 := fun i k a b => by
    rw [qn (by omega)]
    unfold vcA
    rw [if_neg (by omega), if_neg (by omega), if_pos (by omega)]
  have hv : ∀ k, q_u (vcA nv A) 128 0 (nI (nv + 1)) (16 + 4 * nv) k = if k = 0 then nI nv else 0 := fun k => by
    rw [qn (by omega)]
    unfold vcA
    rw [if_neg (by omega), if_pos rfl]
    rfl
  have hc : ∀ v b, cnt (q_u (vcA nv A) 128 0 (nI (nv + 1))) v b = cnt A v b := cnt_congr (pa 132 (by omega) (by omega) (by omega))
  refine ⟨⟨by omega, d2, ?_, qh, ?_, ?_, ?_⟩, ⟨fun v b hv' hb => ?_, fun v b k w hv' hb hk hw => ?_, fun v b hv' hb => ?_, fun v b hv' hb h => ?_, fun v b k w h1 h2 h3 h4 h5 => ?_⟩, cNt_congr (fun i a b => pa i (by omega) (by omega) (by omega)) n, cMk_congr (pa _ (by omega) (by omega) (by omega)) (pa _ (by omega) (by omega) (by omega)) (pa _ (by omega) (by omega) (by omega)) m, ⟨fun v hv' => ?_, ?_, ?_⟩, cPg_congr (pa _ (by omega) (by omega) (by omega)) (p _ _ (by omega) (by omega) (by omega)) (p _ _ (by omega) (by omega) (by omega)) pg, cPt_congr (fun i a b => pa i (by omega) (by omega) (by omega)) (pa _ (by omega) (by omega) (by omega)) (fun q hq => p _ _ (by omega) (by omega) (by omega)) (fun q x a b c => p _ _ (by omega) (by omega) (by omega)) (fun x hx => p _ _ (by omega) (by omega) (by omega)) pt⟩
  · rw [qn (by omega), o1]; exact if_pos rfl
  · rw [p1 _ (by omega)]; exact d5
  · rw [p _ _ (by omega) (by omega) (by omega)]; exact d6
  · rw [p1 _ (by omega), p _ _ (by omega) (by omega) (by omega)]; exact d7
  · rw [pa 132 (by omega) (by omega) (by omega)]
    by_cases e : v = nv
    · subst e
      rw [hz _ _ (by omega) (by omega), (t3 v b (by omega) hb).2, t4 v b (by omega) hb (Or.inl (Nat.le_refl v))]
      rfl
    · rw [p _ _ (by omega) (by omega) (by omega)]; exact t1 v b (by omega) hb
  · rw [pa (133 + w) (by omega) (by omega) (by omega)]
    by_cases e : v = nv
    · subst e
      rw [hz _ _ (by omega) (by omega), t5 v b k w (Nat.le_refl v) (by omega) hb hk hw]
    · rw [p _ _ (by omega) (by omega) (by omega)]; exact t2 v b k w (by omega) hb hk hw
  · rw [hc, pa 132 (by omega) (by omega) (by omega)]; exact t3 v b hv' hb
  · rw [hc]; exact t4 v b hv' hb (by omega)
  · rw [pa (133 + w) (by omega) (by omega) (by omega)]; exact t5 v b k w (by omega) h2 h3 h4 h5
  · rw [pa 139 (by omega) (by omega) (by omega), pa 140 (by omega) (by omega) (by omega)]
    by_cases e : v = nv
    · subst e
      rw [hv, hv, hv, if_pos rfl, if_neg (by omega), if_neg (by omega), (v3 v (Nat.le_refl v) (by omega)).1, (v3 v (Nat.le_refl v) (by omega)).2]
      exact ⟨rfl, rfl, rfl⟩
    · rw [p _ _ (by omega) (by omega) (by omega), p _ _ (by omega) (by omega) (by omega), p _ _ (by omega) (by omega) (by omega)]; exact v1 v (by omega)
  · rw [pa 139 (by omega) (by omega) (by omega), pa 140 (by omega) (by omega) (by omega)]; exact v2
  · rw [pa 139 (by omega) (by omega) (by omega), pa 140 (by omega) (by omega) (by omega)]; exact fun v a b => v3 v (by omega) b
theorem op_voice6 (C : Corr 6 md nb A) : aX8_voice 6 md (fun r2 A2 => (-104 : Int32) = r2 ∧ Corr 6 md nb A2) A := by
  unfold aX8_voice
  rw [C.1.2.2.2.1, show (6 : Int32) = nI 6 from rfl, brT' rfl]
  exact ⟨rfl, C⟩
/-- a PART made: five numbers at new addresses -/
def ptA (v : Nat) (A : q_St) : q_St := fun i => if 64 + 5 * v ≤ i ∧ i < 64 + 5 * v + 5 then (fun _ => 0) else A i
def nwP (a b c d e : Nat) : Nat → Nat := fun k => if k = 0 then a else if k = 1 then b else if k = 2 then c else if k = 3 then d else e
theorem rep_pt {S4 : q_S} {v pt pf p2 pa pb : Nat} (h : Rep ad nv md A S) (hv : v < nv) (hm : md v = false) (hal : Al S [(p2, kO 2 [.ref pa, .ref pb]), (pb, kI 1280 (fun _ => 0)), (pa, kI 40 (fun _ => 0)), (pt, kO 3 [.ref pf, .ref p2, .int 0]), (pf, kI 280 (fun _ => 0))] S4) : Rep (adB ad (64 + 5 * v) 5 (nwP pt pf p2 pa pb)) nv (mdv md v) (ptA v A) (va_up S4 (ad (16 + 4 * v)) (some (kO 5 [.int (A (16 + 4 * v) 0), .ref (ad (16 + 4 * v + 1)), .int (A (16 + 4 * v) 2), .int (A (16 + 4 * v) 3), .ref pt]))) := by
  have h6 := h.1
  have hV : ∀ i, q_V nv (mdv md v) i → q_V nv md i ∨ (64 + 5 * v ≤ i ∧ i < 64 + 5 * v + 5) := by
    intro i hi
    rcases hi with c | c | c | c | c | c
    · exact Or.inl (Or.inl c)
    · exact Or.inl (Or.inr (Or.inl c))
    · by_cases e : (i - 64) / 5 = v
      · exact Or.inr (by omega)
      · refine Or.inl (Or.inr (Or.inr (Or.inl ⟨c.1, c.2.1, ?_⟩)))
        have := c.2.2
        unfold mdv at this
        rw [if_neg e] at this
        exact this
    · exact Or.inl (Or.inr (Or.inr (Or.inr (Or.inl c))))
    · exact Or.inl (Or.inr (Or.inr (Or.inr (Or.inr (Or.inl c)))))
    · exact Or.inl (Or.inr (Or.inr (Or.inr (Or.inr (Or.inr c)))))
  have hd : ∀ i, q_V nv md i → ¬ (64 + 5 * v ≤ i ∧ i < 64 + 5 * v + 5) := by
    intro i hi
    rcases hi with c | c | c | c | c | c
    · omega
    · omega
    · intro z
      have e : (i - 64) / 5 = v := by omega
      rw [e, hm] at c
      exact absurd c.2.2 (by simp)
    · omega
    · omega
    · have := ma_ge c; omega
  have vo : q_VO nv (16 + 4 * v) := ⟨v, hv, rfl⟩
  have f1 := al_n hal 0 rfl
  have f2 := al_n hal 1 rfl
  have f3 := al_n hal 2 rfl
  have f4 := al_n hal 3 rfl
  have f5 := al_n hal 4 rfl
  have nd := hal.2.1
  simp only [List.map_cons, List.map_nil, List.nodup_cons, List.mem_cons, List.not_mem_nil, or_false, not_or, not_false_eq_true, List.nodup_nil, and_true] at nd
  have ou : ∀ x, S x = none → ∀ y : Option q_C, va_up S4 (ad (16 + 4 * v)) y x = S4 x := fun x hx y => by
    rw [va_up_ne _ _ (fun c => rep_some h (vo.V (md := md)) (by rw [← c]; exact hx))]
  have hmv : mdv md v v = true := if_pos rfl
  refine ⟨h6, fun u hu => ?_, inj_blk (S := S) hV hd (fun i hi => rep_some h hi) h.2.2.1 (fun d hd => ?_) (fun d e hd he x => ?_), fun i hi => ?_⟩
  · by_cases e : u = v
    · rw [e]; exact hv
    · unfold mdv at hu
      rw [if_neg e] at hu
      exact h.2.1 u hu
  · unfold nwP
    by_cases c0 : d = 0
    · rw [if_pos c0]; exact f4
    rw [if_neg c0]
    by_cases c1 : d = 1
    · rw [if_pos c1]; exact f5
    rw [if_neg c1]
    by_cases c2 : d = 2
    · rw [if_pos c2]; exact f1
    rw [if_neg c2]
    by_cases c3 : d = 3
    · rw [if_pos c3]; exact f3
    rw [if_neg c3]; exact f2
  · unfold nwP at x
    repeat' split at x
    all_goals omega
  · rcases hV i hi with c | c
    · have hdi := hd i c
      have ei : ptA v A i = A i := if_neg hdi
      rw [adB_o hdi, ei]
      by_cases e1 : i = 16 + 4 * v
      · subst e1
        rw [va_up_self, kX6 h6 vo, show (16 + 4 * v - 16) / 4 = v by omega, adB_o (by omega)]
        unfold pq
        rw [hmv]
        have z : adB ad (64 + 5 * v) 5 (nwP pt pf p2 pa pb) (64 + 5 * v) = pt := adB_n (d := 0) (by omega)
        show _ = some (kO 5 [_, _, _, _, Value.ref (adB ad (64 + 5 * v) 5 (nwP pt pf p2 pa pb) (64 + 5 * v))])
        rw [z]
      · rw [va_up_ne _ _ (fun z => e1 (h.2.2.1 i _ c vo.V z))]
        rw [al_o hal (rep_some h c), h.2.2.2 i c]
        by_cases e2 : i = 2
        · subst e2
          show some (kV 6 _) = some (kV 6 _)
          congr 2
          funext u
          by_cases y : u < nv
          · rw [if_pos y, if_pos y, adB_o (by omega)]
          · rw [if_neg y, if_neg y]
        · have g4 : 64 ≤ i → i < 128 → i < 64 + 5 * v ∨ 64 + 5 * v + 5 ≤ i := by
            intro x1 x2
            omega
          refine congrArg some (cell_c e2 (fun _ => ⟨?_, ?_, ?_, ?_⟩) (fun _ => ⟨?_, ?_⟩) (fun _ => ?_) (fun g => ?_) (fun g1 g2 g3 => ?_) (fun _ j g1 g2 => ?_) ?_).symm
          · exact adB_o (by omega)
          · exact adB_o (by omega)
          · exact adB_o (by omega)
          · exact adB_o (by omega)
          · exact adB_o (by omega)
          · exact adB_o (by omega)
          · exact adB_o (by omega)
          · exact ⟨adB_o (by omega), adB_o (by omega)⟩
          · refine ⟨adB_o (by omega), ?_⟩
            have g5 : (i - 16) / 4 ≠ v := by omega
            have g6 : i < 16 + 4 * nv := by
              rcases c with c | c | c | c | c | c
              · omega
              · omega
              · omega
              · omega
              · omega
              · have := ma_ge c; omega
            have em : mdv md v ((i - 16) / 4) = md ((i - 16) / 4) := if_neg g5
            unfold pq
            rw [em]
            cases md ((i - 16) / 4) with
            | false => rfl
            | true =>
              show some (adB ad (64 + 5 * v) 5 (nwP pt pf p2 pa pb) (64 + 5 * ((i - 16) / 4))) = some (ad (64 + 5 * ((i - 16) / 4)))
              rw [adB_o (by omega)]
          · exact adB_o (by omega)
          · rcases c with c | c | c | c | c | c
            · exact Or.inl c
            · exact Or.inr c.1
            · exact Or.inr (by omega)
            · exact Or.inr (by omega)
            · exact Or.inr (by omega)
            · have := ma_ge c; exact Or.inr (by omega)
    · have n0 : adB ad (64 + 5 * v) 5 (nwP pt pf p2 pa pb) (64 + 5 * v) = pt := adB_n (d := 0) (by omega)
      have n1 : adB ad (64 + 5 * v) 5 (nwP pt pf p2 pa pb) (64 + 5 * v + 1) = pf := adB_n (d := 1) (by omega)
      have n2 : adB ad (64 + 5 * v) 5 (nwP pt pf p2 pa pb) (64 + 5 * v + 2) = p2 := adB_n (d := 2) (by omega)
      have n3 : adB ad (64 + 5 * v) 5 (nwP pt pf p2 pa pb) (64 + 5 * v + 3) = pa := adB_n (d := 3) (by omega)
      have n4 : adB ad (64 + 5 * v) 5 (nwP pt pf p2 pa pb) (64 + 5 * v + 4) = pb := adB_n (d := 4) (by omega)
      have ez : ptA v A i = fun _ => 0 := if_pos c
      have hp : q_PT (mdv md v) (64 + 5 * v) := Or.inl ⟨v, by omega, hmv, rfl⟩
      have kt := kX3 (ad := adB ad (64 + 5 * v) 5 (nwP pt pf p2 pa pb)) (nv := nv) (md := mdv md v) (i := 64 + 5 * v + 2) h6 (q_np hp)
      rw [ez]
      have z4 : i = 64 + 5 * v ∨ i = 64 + 5 * v + 1 ∨ i = 64 + 5 * v + 2 ∨ i = 64 + 5 * v + 3 ∨ i = 64 + 5 * v + 4 := by omega
      rcases z4 with e | e | e | e | e
      · subst e
        rw [n0, ou _ f4, al_k hal 3 rfl, kX4 hp, n1, n2]
      · subst e
        rw [n1, ou _ f5, al_k hal 4 rfl, (isaX4_figures (nv := nv) hp).2 h6]
      · subst e
        rw [n2, ou _ f1, al_k hal 0 rfl, (kt _).1]
        show some (kO 2 [.ref pa, .ref pb]) = some (kO 2 [.ref (adB ad (64 + 5 * v) 5 (nwP pt pf p2 pa pb) (64 + 5 * v + 3)), .ref (adB ad (64 + 5 * v) 5 (nwP pt pf p2 pa pb) (64 + 5 * v + 4))])
        rw [n3, n4]
      · subst e
        rw [n3, ou _ f3, al_k hal 2 rfl]
        exact congrArg some (kt _).2.1.symm
      · subst e
        rw [n4, ou _ f2, al_k hal 1 rfl]
        exact congrArg some (kt _).2.2.symm
theorem EX7_extract_b {v : Nat} (h : Rep ad nv md A S) (hv : v < nv) (hm : md v = true) {Q1 : Int32 → q_St → Prop} {Q2 : Int32 → q_S → Prop} (ha : aX0_make nv md (16 + 4 * v) (64 + 5 * v) (fun A1 => Q1 (A1 (64 + 5 * v) 2) A1) A) (hq : ∀ r A' S', Rep ad nv md A' S' → Q1 r A' → Q2 r S') : wX7_extract_b34 Q2 (ad 0) (ad (16 + 4 * v)) S := by
  have h6 := h.1
  have vo : q_VO nv (16 + 4 * v) := ⟨v, hv, rfl⟩
  have vp : q_PT md (64 + 5 * v) := Or.inl ⟨v, by omega, hm, rfl⟩
  have ep : pq md ((16 + 4 * v - 16) / 4) = some (64 + 5 * v) := by
    rw [show (16 + 4 * v - 16) / 4 = v by omega]
    unfold pq
    rw [hm]; rfl
  have c6 : ∀ {A : q_St} {S : q_S}, Rep ad nv md A S → S (ad (16 + 4 * v)) = some (kO 5 [.int (A (16 + 4 * v) 0), .ref (ad (16 + 4 * v + 1)), .int (A (16 + 4 * v) 2), .int (A (16 + 4 * v) 3), va_rf (some (ad (64 + 5 * v)))]) := fun h => by
    rw [cX6 h vo, ep]; rfl
  unfold wX7_extract_b34
  refine ⟨_, _, cX7 h, rfl, _, _, c6 h, rfl, _, rfl, ?_⟩
  refine EX0_make h vo vp ha (fun A1 S1 h1 hQ => ?_)
  exact ⟨_, _, c6 h1, rfl, _, rfl, _, _, cX4 h1 vp, rfl, hq _ _ _ h1 hQ⟩
theorem EX7_extract {v : Nat} (h : Rep ad nv md A S) (hv : v < nv) {Q1 : Int32 → q_St → Prop} {Q2 : Int32 → q_S → Prop} (ha : ∀ B : q_St, (∀ q m, ¬ (64 + 5 * v ≤ q ∧ q ≤ 64 + 5 * v + 4) → B q m = A q m) → aX0_make nv (mdv md v) (16 + 4 * v) (64 + 5 * v) (fun A1 => Q1 (A1 (64 + 5 * v) 2) A1) B) (hq : ∀ ad' r A' S', ad' 0 = ad 0 → ad' 128 = ad 128 → Rep ad' nv (mdv md v) A' S' → Q1 r A' → Q2 r S') : wX7_extract (ad 0) (nI v) Q2 S := by
  have h6 := h.1
  have vo : q_VO nv (16 + 4 * v) := ⟨v, hv, rfl⟩
  unfold wX7_extract
  refine ⟨⟨_, cX7 h⟩, _, _, cX7 h, rfl, ?_⟩
  refine EX5_voiceAt (Q1 := fun o A' => o = some (16 + 4 * v) ∧ A' = A) h ?_ (fun o A1 S1 ho h1 hQ => ?_)
  · unfold aX5_voiceAt
    rw [if_pos (by rw [i_nI (by omega)]; omega), cl_nI (by omega)]
    exact ⟨rfl, rfl⟩
  obtain ⟨e1, e2⟩ := hQ
  subst e1 e2
  refine ⟨fun z => absurd z (by simp), fun a ea => ?_⟩
  have ea' : ad (16 + 4 * v) = a := by simpa using ea
  subst ea'
  refine ⟨_, (pq md ((16 + 4 * v - 16) / 4)).map ad, cX6 h1 vo, rfl, ?_⟩
  have epq : pq md ((16 + 4 * v - 16) / 4) = if md v = true then some (64 + 5 * v) else none := by
    rw [show (16 + 4 * v - 16) / 4 = v by omega]; rfl
  cases hm : md v with
  | true =>
    have emd : mdv md v = md := funext fun u => by
      unfold mdv
      by_cases e : u = v
      · rw [if_pos e, e, hm]
      · rw [if_neg e]
    rw [emd] at ha hq
    rw [epq, hm]
    refine ⟨fun z => absurd z (by simp), fun a ea => ?_⟩
    exact EX7_extract_b h1 hv hm (ha _ (fun _ _ _ => rfl)) (fun r A' S' h' hQ => hq ad r A' S' rfl rfl h' hQ)
  | false =>
    rw [epq, hm]
    refine ⟨fun _ => ?_, fun a ea => absurd ea (by simp)⟩
    intro pt z5
    refine n_X4 (S0 := S1) (L := []) (al_new (al_0 S1) z5 _) (fun pf p2 pa pb S4 hal => ?_)
    have c6 : S4 (ad (16 + 4 * v)) = some (kO 5 [.int (A1 (16 + 4 * v) 0), .ref (ad (16 + 4 * v + 1)), .int (A1 (16 + 4 * v) 2), .int (A1 (16 + 4 * v) 3), va_rf none]) := by
      rw [al_o hal (rep_some h1 (vo.V (md := md))), cX6 h1 vo, epq, hm]; rfl
    refine ⟨_, c6, Nat.le_of_ble_eq_true rfl, ?_⟩
    have hr := rep_pt h1 hv hm hal
    have e0 : adB ad (64 + 5 * v) 5 (nwP pt pf p2 pa pb) 0 = ad 0 := adB_o (by omega)
    have e16 : adB ad (64 + 5 * v) 5 (nwP pt pf p2 pa pb) (16 + 4 * v) = ad (16 + 4 * v) := adB_o (by omega)
    rw [← e0, ← e16]
    rw [← e16] at hr
    refine EX7_extract_b hr hv (if_pos rfl) (ha _ (fun q m hq => ?_)) (fun r A' S' h' hQ => hq _ r A' S' e0 (adB_o (by omega)) h' hQ)
    show ptA v A1 q m = A1 q m
    unfold ptA
    rw [if_neg (by omega)]
end CRX
