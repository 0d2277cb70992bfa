section CRW
variable {ad ad' : Nat → Nat} {nv nv' nb : Nat} {md md' : Nat → Bool} {A : q_St} {S S' S0 : q_S}
theorem ma_ge {i : Nat} (h : q_ma i = true) : 132 ≤ i ∧ i ≤ 165 := by
  unfold q_ma at h
  simp only [Bool.or_eq_true, beq_iff_eq] at h
  omega
theorem cell_c {i : Nat} {c : Nat → Int32} (h2 : i ≠ 2) (a0 : i = 0 → ad' 1 = ad 1 ∧ ad' 5 = ad 5 ∧ ad' 8 = ad 8 ∧ ad' 94 = ad 94) (a1 : i = 1 → ad' 2 = ad 2 ∧ ad' 3 = ad 3) (a3 : i = 3 → ad' 4 = ad 4) (a5 : (i = 5 ∨ i = 8 ∨ (16 ≤ i ∧ i < 64 ∧ i % 4 = 1) ∨ (64 ≤ i ∧ i < 128 ∧ (i % 5 = 4 ∨ i % 5 = 1))) → ad' (i + 1) = ad (i + 1) ∧ ad' (i + 2) = ad (i + 2)) (av : 16 ≤ i → i < 64 → i % 4 = 0 → ad' (i + 1) = ad (i + 1) ∧ (pq md' ((i - 16) / 4)).map ad' = (pq md ((i - 16) / 4)).map ad) (am : i = 128 → ∀ j, 132 ≤ j → j ≤ 165 → ad' j = ad j) (hi : i ≤ 10 ∨ 16 ≤ i) : cellX ad' nv' md' i c = cellX ad nv md i c := by
  unfold cellX
  by_cases e0 : i = 0
  · obtain ⟨x1, x2, x3, x4⟩ := a0 e0
    rw [if_pos e0, if_pos e0, x1, x2, x3, x4]
  rw [if_neg e0, if_neg e0]
  by_cases e1 : i = 1
  · obtain ⟨x1, x2⟩ := a1 e1
    rw [if_pos e1, if_pos e1, x1, x2]
  rw [if_neg e1, if_neg e1, if_neg h2, if_neg h2]
  by_cases e3 : i = 3
  · rw [if_pos e3, if_pos e3, a3 e3]
  rw [if_neg e3, if_neg e3]
  by_cases e4 : i = 4
  · rw [if_pos e4, if_pos e4]
  rw [if_neg e4, if_neg e4]
  by_cases e5 : i = 5 ∨ i = 8
  · obtain ⟨x1, x2⟩ := a5 (by omega)
    rw [if_pos e5, if_pos e5, x1, x2]
  rw [if_neg e5, if_neg e5]
  by_cases e6 : i = 6 ∨ i = 9
  · rw [if_pos e6, if_pos e6]
  rw [if_neg e6, if_neg e6]
  by_cases e7 : i = 7 ∨ i = 10
  · rw [if_pos e7, if_pos e7]
  rw [if_neg e7, if_neg e7]
  by_cases e8 : i < 64
  · rw [if_pos e8, if_pos e8]
    by_cases f0 : i % 4 = 0
    · obtain ⟨x1, x2⟩ := av (by omega) e8 f0
      rw [if_pos f0, if_pos f0, x1, x2]
    rw [if_neg f0, if_neg f0]
    by_cases f1 : i % 4 = 1
    · obtain ⟨x1, x2⟩ := a5 (by omega)
      rw [if_pos f1, if_pos f1, x1, x2]
    rw [if_neg f1, if_neg f1]
  rw [if_neg e8, if_neg e8]
  by_cases e9 : i < 128
  · rw [if_pos e9, if_pos e9]
    by_cases f0 : i % 5 = 4
    · obtain ⟨x1, x2⟩ := a5 (by omega)
      rw [if_pos f0, if_pos f0, x1, x2]
    rw [if_neg f0, if_neg f0]
    by_cases f1 : i % 5 = 0
    · rw [if_pos f1, if_pos f1]
    rw [if_neg f1, if_neg f1]
    by_cases f2 : i % 5 = 1
    · obtain ⟨x1, x2⟩ := a5 (by omega)
      rw [if_pos f2, if_pos f2, x1, x2]
    rw [if_neg f2, if_neg f2]
  rw [if_neg e9, if_neg e9]
  by_cases e10 : i = 128
  · have hm := am e10
    rw [if_pos e10, if_pos e10]
    rw [hm 132 (by omega) (by omega), hm 133 (by omega) (by omega), hm 134 (by omega) (by omega), hm 135 (by omega) (by omega), hm 136 (by omega) (by omega), hm 137 (by omega) (by omega), hm 138 (by omega) (by omega), hm 139 (by omega) (by omega), hm 140 (by omega) (by omega), hm 142 (by omega) (by omega), hm 143 (by omega) (by omega), hm 144 (by omega) (by omega), hm 145 (by omega) (by omega), hm 146 (by omega) (by omega), hm 147 (by omega) (by omega), hm 148 (by omega) (by omega), hm 149 (by omega) (by omega), hm 150 (by omega) (by omega), hm 151 (by omega) (by omega), hm 154 (by omega) (by omega), hm 157 (by omega) (by omega), hm 158 (by omega) (by omega), hm 159 (by omega) (by omega), hm 160 (by omega) (by omega), hm 162 (by omega) (by omega), hm 163 (by omega) (by omega), hm 164 (by omega) (by omega), hm 165 (by omega) (by omega)]
  rw [if_neg e10, if_neg e10]
theorem al_o {L : List (Nat × q_C)} (h : Al S0 L S) {a : Nat} (ha : S0 a ≠ none) : S a = S0 a := by
  refine h.2.2.2 a (fun c => ?_)
  obtain ⟨p, h1, h2⟩ := List.mem_map.mp c
  exact ha (by rw [← h2]; exact h.2.2.1 p h1)
theorem al_n {L : List (Nat × q_C)} (h : Al S0 L S) (k : Nat) {a : Nat} {x : q_C} (hk : L[k]? = some (a, x)) : S0 a = none := h.2.2.1 (a, x) (List.mem_of_getElem? hk)
/-- the block of n numbers from lo on stands at new addresses -/
def adB (ad : Nat → Nat) (lo n : Nat) (nw : Nat → Nat) : Nat → Nat := fun i => if lo ≤ i ∧ i < lo + n then nw (i - lo) else ad i
theorem adB_o {lo n i : Nat} {nw : Nat → Nat} (h : ¬ (lo ≤ i ∧ i < lo + n)) : adB ad lo n nw i = ad i := if_neg h
theorem adB_n {lo n d : Nat} {nw : Nat → Nat} (h : d < n) : adB ad lo n nw (lo + d) = nw d := by
  unfold adB
  rw [if_pos (by omega)]
  congr 1
  omega
theorem inj_blk {V V' : Nat → Prop} {lo n : Nat} {nw : Nat → Nat} (hV : ∀ i, V' i → V i ∨ (lo ≤ i ∧ i < lo + n)) (hd : ∀ i, V i → ¬ (lo ≤ i ∧ i < lo + n)) (hs : ∀ i, V i → S (ad i) ≠ none) (hi : ∀ i j, V i → V j → ad i = ad j → i = j) (hf : ∀ d, d < n → S (nw d) = none) (hn : ∀ d e, d < n → e < n → nw d = nw e → d = e) : ∀ i j, V' i → V' j → adB ad lo n nw i = adB ad lo n nw j → i = j := by
  intro i j vi vj e
  rcases hV i vi with a | a
  · rw [adB_o (hd i a)] at e
    rcases hV j vj with b | b
    · rw [adB_o (hd j b)] at e
      exact hi i j a b e
    · exfalso
      have eb : adB ad lo n nw j = nw (j - lo) := if_pos b
      rw [eb] at e
      exact hs i a (by rw [e]; exact hf _ (by omega))
  · have ea : adB ad lo n nw i = nw (i - lo) := if_pos a
    rw [ea] at e
    rcases hV j vj with b | b
    · rw [adB_o (hd j b)] at e
      exfalso
      exact hs j b (by rw [← e]; exact hf _ (by omega))
    · have eb : adB ad lo n nw j = nw (j - lo) := if_pos b
      rw [eb] at e
      have := hn _ _ (by omega) (by omega) e
      omega
theorem rep_some (h : Rep ad nv md A S) {i : Nat} (hi : q_V nv md i) : S (ad i) ≠ none := by rw [h.2.2.2 i hi]; simp
/-- THE SCORE with one voice more -/
def vcA (nv : Nat) (A : q_St) : q_St := fun i => if i = 1 then upd (A 1) 2 (nI (nv + 1)) else if i = 16 + 4 * nv then upd (fun _ => 0) 0 (nI nv) else if 17 + 4 * nv ≤ i ∧ i ≤ 19 + 4 * nv then (fun _ => 0) else A i
def nwV (a b c d : Nat) : Nat → Nat := fun k => if k = 0 then a else if k = 1 then b else if k = 2 then c else d
theorem rep_vc {S4 : q_S} {q5 q1 qa qb : Nat} (h : Rep ad nv md A S) (hn : nv < 6) (hal : Al S [(q1, kO 2 [.ref qa, .ref qb]), (qb, kI 1280 (fun _ => 0)), (qa, kI 40 (fun _ => 0)), (q5, kO 5 [.int (nI nv), .ref q1, .int 0, .int 0, .null])] S4) : Rep (adB ad (16 + 4 * nv) 4 (nwV q5 q1 qa qb)) (nv + 1) md (vcA nv A) (va_up (va_up S4 (ad 2) (some (kV 6 (va_up (fun v => if v < nv then some (ad (16 + 4 * v)) else none) nv (some q5))))) (ad 1) (some (kO 4 [.ref (ad 2), .ref (ad 3), .int (nI (nv + 1)), .int (A 1 3), .int (A 1 4)]))) := by
  have hV : ∀ i, q_V (nv + 1) md i → q_V nv md i ∨ (16 + 4 * nv ≤ i ∧ i < 16 + 4 * nv + 4) := by
    intro i hi
    rcases hi with c | c | c | c | c | c
    · exact Or.inl (Or.inl c)
    · by_cases e : i < 16 + 4 * nv
      · exact Or.inl (Or.inr (Or.inl ⟨c.1, e⟩))
      · exact Or.inr (by omega)
    · exact Or.inl (Or.inr (Or.inr (Or.inl c)))
    · exact Or.inl (Or.inr (Or.inr (Or.inr (Or.inl c))))
    · exact Or.inl (Or.inr (Or.inr (Or.inr (Or.inr (Or.inl c)))))
    · exact Or.inl (Or.inr (Or.inr (Or.inr (Or.inr (Or.inr c)))))
  have hd : ∀ i, q_V nv md i → ¬ (16 + 4 * nv ≤ i ∧ i < 16 + 4 * nv + 4) := by
    intro i hi
    rcases hi with c | c | c | c | c | c
    · omega
    · omega
    · omega
    · omega
    · omega
    · have := ma_ge c; omega
  have v1 : q_V nv md 1 := Or.inl (by omega)
  have v2 : q_V nv md 2 := Or.inl (by omega)
  have f1 := al_n hal 0 rfl
  have f2 := al_n hal 1 rfl
  have f3 := al_n hal 2 rfl
  have f4 := al_n hal 3 rfl
  have nd := hal.2.1
  simp only [List.map_cons, List.map_nil, List.nodup_cons, List.mem_cons, List.not_mem_nil, or_false, not_or, not_false_eq_true, List.nodup_nil, and_true] at nd
  have ou : ∀ x, S x = none → ∀ y : Option q_C, ∀ z : Option q_C, va_up (va_up S4 (ad 2) y) (ad 1) z x = S4 x := fun x hx y z => by
    rw [va_up_ne _ _ (fun c => rep_some h v1 (by rw [← c]; exact hx)), va_up_ne _ _ (fun c => rep_some h v2 (by rw [← c]; exact hx))]
  have hmn : md nv = false := by
    cases e : md nv with
    | false => rfl
    | true => exact absurd (h.2.1 nv e) (by omega)
  refine ⟨by omega, fun v hv => Nat.lt_succ_of_lt (h.2.1 v hv), inj_blk (S := S) hV hd (fun i hi => rep_some h hi) h.2.2.1 (fun d hd => ?_) (fun d e hd he x => ?_), fun i hi => ?_⟩
  · unfold nwV
    by_cases c0 : d = 0
    · rw [if_pos c0]; exact f4
    rw [if_neg c0]
    by_cases c1 : d = 1
    · rw [if_pos c1]; exact f1
    rw [if_neg c1]
    by_cases c2 : d = 2
    · rw [if_pos c2]; exact f3
    rw [if_neg c2]; exact f2
  · unfold nwV at x
    repeat' split at x
    all_goals omega
  · rcases hV i hi with c | c
    · have ei : vcA nv A i = if i = 1 then upd (A 1) 2 (nI (nv + 1)) else A i := by
        have := hd i c
        unfold vcA
        by_cases e : i = 1
        · rw [if_pos e, if_pos e]
        · rw [if_neg e, if_neg e, if_neg (by omega), if_neg (by omega)]
      rw [adB_o (hd i c), ei]
      by_cases e1 : i = 1
      · subst e1
        rw [va_up_self, if_pos rfl]
        show some (kO 4 [.ref (ad 2), .ref (ad 3), .int (nI (nv + 1)), .int (A 1 3), .int (A 1 4)]) = some (kO 4 [.ref (adB ad (16 + 4 * nv) 4 (nwV q5 q1 qa qb) 2), .ref (adB ad (16 + 4 * nv) 4 (nwV q5 q1 qa qb) 3), .int (nI (nv + 1)), .int (A 1 3), .int (A 1 4)])
        rw [adB_o (by omega), adB_o (by omega)]
      · rw [if_neg e1, va_up_ne _ _ (fun z => e1 (h.2.2.1 i 1 c v1 z))]
        by_cases e2 : i = 2
        · subst e2
          rw [va_up_self]
          show some (kV 6 _) = some (kV 6 _)
          congr 2
          funext v
          by_cases z : v = nv
          · subst z
            rw [va_up_self, if_pos (by omega)]
            have := adB_n (ad := ad) (lo := 16 + 4 * v) (n := 4) (d := 0) (nw := nwV q5 q1 qa qb) (by omega)
            exact congrArg some this.symm
          · rw [va_up_ne _ _ z]
            by_cases y : v < nv
            · rw [if_pos y, if_pos (by omega), adB_o (by omega)]
            · rw [if_neg y, if_neg (by omega)]
        · rw [va_up_ne _ _ (fun z => e2 (h.2.2.1 i 2 c v2 z)), al_o hal (rep_some h c), h.2.2.2 i c]
          refine congrArg some (cell_c e2 (fun _ => ⟨?_, ?_, ?_, ?_⟩) (fun _ => ⟨?_, ?_⟩) (fun _ => ?_) (fun g => ?_) (fun g1 g2 g3 => ?_) (fun _ j g1 g2 => ?_) ?_).symm
          · exact adB_o (by omega)
          · exact adB_o (by omega)
          · exact adB_o (by omega)
          · exact adB_o (by omega)
          · exact adB_o (by omega)
          · exact adB_o (by omega)
          · exact adB_o (by omega)
          · have := hd i c
            have g4 : 16 ≤ i → i < 64 → i < 16 + 4 * nv := by
              intro x1 x2
              rcases c with c | c | c | c | c | c
              · omega
              · omega
              · omega
              · omega
              · omega
              · have := ma_ge c; omega
            exact ⟨adB_o (by omega), adB_o (by omega)⟩
          · have g4 : i < 16 + 4 * nv := by
              rcases c with c | c | c | c | c | c
              · omega
              · omega
              · omega
              · omega
              · omega
              · have := ma_ge c; omega
            refine ⟨adB_o (by omega), ?_⟩
            unfold pq
            cases md ((i - 16) / 4) with
            | false => rfl
            | true =>
              show some (adB ad (16 + 4 * nv) 4 (nwV q5 q1 qa qb) (64 + 5 * ((i - 16) / 4))) = some (ad (64 + 5 * ((i - 16) / 4)))
              rw [adB_o (by omega)]
          · exact adB_o (by omega)
          · rcases c with c | c | c | c | c | c
            · exact Or.inl c
            · exact Or.inr c.1
            · exact Or.inr (by omega)
            · exact Or.inr (by omega)
            · exact Or.inr (by omega)
            · have := ma_ge c; exact Or.inr (by omega)
    · have n0 : adB ad (16 + 4 * nv) 4 (nwV q5 q1 qa qb) (16 + 4 * nv) = q5 := adB_n (d := 0) (by omega)
      have n1 : adB ad (16 + 4 * nv) 4 (nwV q5 q1 qa qb) (17 + 4 * nv) = q1 := by
        rw [show 17 + 4 * nv = 16 + 4 * nv + 1 by omega]; exact adB_n (d := 1) (by omega)
      have n2 : adB ad (16 + 4 * nv) 4 (nwV q5 q1 qa qb) (18 + 4 * nv) = qa := by
        rw [show 18 + 4 * nv = 16 + 4 * nv + 2 by omega]; exact adB_n (d := 2) (by omega)
      have n3 : adB ad (16 + 4 * nv) 4 (nwV q5 q1 qa qb) (19 + 4 * nv) = qb := by
        rw [show 19 + 4 * nv = 16 + 4 * nv + 3 by omega]; exact adB_n (d := 3) (by omega)
      have kt := kX3 (ad := adB ad (16 + 4 * nv) 4 (nwV q5 q1 qa qb)) (nv := nv + 1) (md := md) (i := 17 + 4 * nv) (by omega) (Or.inl ⟨nv, by omega, rfl⟩)
      have z4 : i = 16 + 4 * nv ∨ i = 17 + 4 * nv ∨ i = 18 + 4 * nv ∨ i = 19 + 4 * nv := by omega
      rcases z4 with e | e | e | e
      · subst e
        rw [n0, ou _ f4, al_k hal 3 rfl, kX6 (by omega) ⟨nv, by omega, rfl⟩, show 16 + 4 * nv + 1 = 17 + 4 * nv by omega, n1, show (16 + 4 * nv - 16) / 4 = nv by omega]
        unfold pq
        rw [hmn]
        unfold vcA
        rw [if_neg (by omega), if_pos rfl]
        rfl
      · subst e
        rw [n1, ou _ f1, al_k hal 0 rfl, (kt _).1, show 17 + 4 * nv + 1 = 18 + 4 * nv by omega, n2, show 17 + 4 * nv + 2 = 19 + 4 * nv by omega, n3]
      · subst e
        have k2 := (kt (vcA nv A (18 + 4 * nv))).2.1
        rw [show 17 + 4 * nv + 1 = 18 + 4 * nv by omega] at k2
        rw [n2, ou _ f3, al_k hal 2 rfl, k2]
        unfold vcA
        rw [if_neg (by omega), if_neg (by omega), if_pos (by omega)]
      · subst e
        have k2 := (kt (vcA nv A (19 + 4 * nv))).2.2
        rw [show 17 + 4 * nv + 2 = 19 + 4 * nv by omega] at k2
        rw [n3, ou _ f2, al_k hal 1 rfl, k2]
        unfold vcA
        rw [if_neg (by omega), if_neg (by omega), if_pos (by omega)]
theorem EX7_voice {Q : Int32 → q_S → Prop} (h : Rep ad nv md A S) (h12 : A 1 2 = nI nv) (hq : nv < 6 → ∀ (ad' : Nat → Nat) (S' : q_S), ad' 0 = ad 0 → ad' 128 = ad 128 → Rep ad' (nv + 1) md (vcA nv A) S' → Q (nI nv) S') (hn : ¬ nv < 6 → Q (-104 : Int32) S) : wX7_voice (ad 0) Q S := by
  have h6 := h.1
  unfold wX7_voice
  refine ⟨⟨_, cX7 h⟩, _, _, cX7 h, rfl, ?_⟩
  unfold wX5_addVoice
  refine ⟨⟨_, cX5 h⟩, _, _, cX5 h, rfl, ?_⟩
  have hlt : (A 1 2 < (6 : Int32)) = (nv < 6) := by rw [h12, show (6 : Int32) = nI 6 from rfl, lt_n (by omega) (by omega)]
  refine ⟨fun c0 => ?_, fun c0 => hn (fun z => c0 (hlt.mpr z))⟩
  have c : nv < 6 := hlt.mp c0
  refine ⟨_, _, cX5 h, rfl, _, _, cX5 h, rfl, ?_⟩
  intro q5 z5
  refine n_X6 (S0 := S) (L := []) (al_new (al_0 S) z5 _) (fun q1 qa qb S4 hal => ?_)
  have v1 : q_V nv md 1 := Or.inl (by omega)
  have v2 : q_V nv md 2 := Or.inl (by omega)
  rw [h12] at hal
  refine ⟨6, _, _, (al_o hal (rep_some h v2)).trans (cVA h), al_k hal 3 rfl, by rw [h12]; exact in_nI (by omega) (by omega), ?_⟩
  have n12 : ad 1 ≠ ad 2 := fun z => absurd (h.2.2.1 1 2 v1 v2 z) (by omega)
  have e5 : ∀ y, va_up S4 (ad 2) y (ad 1) = some (kO 4 [.ref (ad 2), .ref (ad 3), .int (A 1 2), .int (A 1 3), .int (A 1 4)]) := fun y => by
    rw [va_up_ne _ _ n12, al_o hal (rep_some h v1)]; exact cX5 h
  refine ⟨_, _, e5 _, rfl, _, e5 _, Nat.le_of_ble_eq_true rfl, ?_⟩
  rw [h12, cl_nI (by omega), e1, nI_add]
  exact hq c _ _ (adB_o (by omega)) (adB_o (by omega)) (rep_vc h c hal)
end CRW
