section CMPG
variable {nv : Nat} {md : Nat → Bool} {A1 : q_St} {sr : Nat → Nat} {lr : Nat → Bool} {H ns rc : Nat}
/-- the same of the model's slot p -/
def SM (p : Nat) (sr : Nat → Nat) (lr : Nat → Bool) (H ns rc : Nat) (A : q_St) : Prop := A 128 25 = nI ns ∧ (∀ k, k ≤ ns → A 154 k = nI (sr k)) ∧ A 128 23 = nI H ∧ (∀ i, i < rc → lr i = decide (A 144 (40 * p + i) = 1 ∧ 2 ≤ (A 146 (40 * p + i)).toInt)) ∧ ns ≤ 40 ∧ rc ≤ 40 ∧ (∀ k, k < ns → sr k < rc) ∧ (∀ k, k < ns → 0 < k → 0 < sr k) ∧ sr ns = rc ∧ (∀ a b, a ≤ b → b ≤ ns → sr a ≤ sr b)
theorem a8_longRest {p : Nat} {A : q_St} {Q : Int32 → q_St → Prop} (h : SM p sr lr H ns rc A) {i : Nat} (hp : p ≤ 6) (hi : i < rc) : aX8_isLongRest nv md (nI (40 * p + i)) Q A = Q (bI (lr i)) A := by
  obtain ⟨h1, h2, h3, h4, h5, h6, h7, h8, h9, h10⟩ := h
  unfold aX8_isLongRest
  rw [in_n (by omega) (by omega), cl_nI (by omega), zr_0, zr_1, in_n (by omega) (by omega), h4 i hi]
  by_cases g1 : A 144 (40 * p + i) = 1
  · rw [brT' g1, i_lt, L_2]
    by_cases g2 : (A 146 (40 * p + i)).toInt < 2
    · rw [brT g2, decide_eq_false (by omega)]; rfl
    · rw [brF g2, decide_eq_true ⟨g1, by omega⟩]; rfl
  · rw [brF' g1, decide_eq_false (fun z => g1 z.1)]; rfl
theorem SM_keep {p : Nat} {A A' : q_St} (h : SM p sr lr H ns rc A) (hA : ∀ q m, ¬ (157 ≤ q ∧ q ≤ 160) → (q ≠ 128 ∨ m ≠ 26) → A' q m = A q m) : SM p sr lr H ns rc A' := by
  obtain ⟨h1, h2, h3, h4, h5, h6, h7, h8, h9, h10⟩ := h
  refine ⟨by rw [hA _ _ (by omega) (by omega)]; exact h1, fun k hk => by rw [hA _ _ (by omega) (by omega)]; exact h2 k hk, by rw [hA _ _ (by omega) (by omega)]; exact h3, fun i hi => by rw [hA _ _ (by omega) (by omega), hA _ _ (by omega) (by omega)]; exact h4 i hi, h5, h6, h7, h8, h9, h10⟩
def PUM (sr : Nat → Nat) (p s n : Nat) (t : Bool) (A A' : q_St) : Prop := ∀ q m, A' q m = if q = 128 ∧ m = 26 then nI (p + 1) else if q = 157 ∧ m = p then nI (sr s) else if q = 158 ∧ m = p then nI (sr (s + n) - sr s) else if q = 159 ∧ m = p then nI n else if q = 160 ∧ m = p then bI t else A q m
theorem bnar (t : Bool) : vp_nar .boolean (bI t) = bI t := by cases t <;> rfl
theorem a8_put {p g s n : Nat} {t : Bool} {A : q_St} {Q : q_St → Prop} {K : Int32 → Int32 → q_St → Prop} (h : SM p sr lr H ns rc A) (hp : A 128 26 = nI g) (hp4 : g < 40) (hs : s + n ≤ ns) (hq : ∀ A' : q_St, PUM sr g s n t A A' → K (nI p) (nI (s + n)) A') : aX8_layPages_b136 nv md Q K (nI p) (nI s) (bI t) (nI n) A := by
  obtain ⟨h1, h2, h3, h4, h5, h6, h7, h8, h9, h10⟩ := h
  unfold aX8_layPages_b136
  simp only [nI_add, hp]
  rw [in_n (by omega) (by omega), cl_nI (by omega), cl_nI (by omega), a_s_n hp4 (by omega), in_n (by omega) (by omega), in_n (by omega) (by omega), qn (by omega), qn (by omega), qn (by omega), hp, h2 s (by omega), h2 _ hs, pk_sub (h10 s (s + n) (by omega) hs)]
  rw [a_s_n hp4 (by omega), qn (by omega), qn (by omega), hp, a_s_n hp4 (by omega), qn (by omega), qn (by omega), qn (by omega), hp, a_s_n hp4 (by omega), bnar]
  unfold a_p
  rw [qn (by omega), qn (by omega), qn (by omega), qn (by omega), hp, e1, nI_add]
  refine hq _ (fun q m => ?_)
  simp only [qa]
  by_cases g0 : q = 128 ∧ m = 26
  · repeat (first | rw [if_pos (by omega)] | rw [if_neg (by omega)])
  · by_cases g1 : q = 157 ∧ m = g
    · repeat (first | rw [if_pos (by omega)] | rw [if_neg (by omega)])
    · by_cases g2 : q = 158 ∧ m = g
      · repeat (first | rw [if_pos (by omega)] | rw [if_neg (by omega)])
      · by_cases g3 : q = 159 ∧ m = g
        · repeat (first | rw [if_pos (by omega)] | rw [if_neg (by omega)])
        · by_cases g4 : q = 160 ∧ m = g
          · repeat (first | rw [if_pos (by omega)] | rw [if_neg (by omega)])
          · repeat (first | rw [if_pos (by omega)] | rw [if_neg (by omega)])
theorem a8_addL {p g s n0 : Nat} {A : q_St} {Q : q_St → Prop} {K : Int32 → Int32 → q_St → Prop} (hp6 : p ≤ 6) (h : SM p sr lr H ns rc A) (hp : A 128 26 = nI g) (hp4 : g < 40) (hH : 1 ≤ H) (hHs : H < ns - s) : ∀ (f k : Nat), k ≤ H → k < f → (∀ A' : q_St, PUM sr g s (pgS (twf sr lr) H s k).1 (pgS (twf sr lr) H s k).2 A A' → K (nI p) (nI (s + (pgS (twf sr lr) H s k).1)) A') → alX8_layPages_b48 nv md Q K f (nI p) (nI s) (nI n0) (0 : Int32) (nI k) A := by
  have h5 := h.2.2.2.2.1
  have h6 := h.2.2.2.2.2.1
  intro f
  induction f with
  | zero => intro k hk1 hk2; exact absurd hk2 (by omega)
  | succ f ih =>
    intro k hk1 hk2 hq
    show aX8_layPages_b48 nv md Q K (alX8_layPages_b48 nv md Q K f) (nI p) (nI s) (nI n0) (0 : Int32) (nI k) A
    unfold aX8_layPages_b48 aX8_layPages_b123 aX8_layPages_b117 aX8_layPages_b111 aX8_layPages_b117
    rw [h.2.2.1]
    have e2 : (nI k < nI H - 2) = (k + 2 < H) := by
      rw [i_lt, i_nI (by omega), i_sub, i_nI (by omega), L_2]
      · rw [eq_iff_iff]; omega
      · rw [i_nI (by omega), L_2]; omega
      · rw [i_nI (by omega), L_2]; omega
    rw [brT' (c := (0 : Int32) = 0) rfl, brT (c := (0 : Int32) = 0) rfl, e2, e1, lt_n (by omega) (by omega)]
    cases k with
    | zero =>
      rw [brT (by omega)]
      exact a8_put (t := false) h hp hp4 (by omega) hq
    | succ k =>
      rw [brF (by omega)]
      have he : pgS (twf sr lr) H s (k + 1) = if H ≤ k + 1 + 2 then (if twf sr lr (s + (k + 1)) = true then (k + 1, true) else pgS (twf sr lr) H s k) else (H, false) := rfl
      rw [he] at hq
      by_cases z2 : k + 1 + 2 < H
      · rw [brT z2]
        rw [if_neg (by omega)] at hq
        exact a8_put (t := false) h hp hp4 (by omega) hq
      · have h7 := h.2.2.2.2.2.2.1 (s + (k + 1)) (by omega)
        have h8 := h.2.2.2.2.2.2.2.1 (s + (k + 1)) (by omega) (by omega)
        have ek : nI 40 * nI p + nI (sr (s + (k + 1))) - nI 1 = nI (40 * p + (sr (s + (k + 1)) - 1)) := by
          rw [n_ma, pk_sub (by omega)]
          congr 1
          omega
        rw [brF z2, nI_add, in_n (by omega) (by omega), cl_nI (by omega), h.2.1 _ (by omega), e40, ek, n_ma, a8_longRest h hp6 (by omega), a8_longRest h hp6 h7, brD, brD']
        rw [if_pos (by omega)] at hq
        have eT : (if lr (sr (s + (k + 1)) - 1) = true then alX8_layPages_b48 nv md Q K f (nI p) (nI s) (nI (k + 1)) (nI 1) (nI (k + 1) + -nI 1) A else if lr (sr (s + (k + 1))) = true then alX8_layPages_b48 nv md Q K f (nI p) (nI s) (nI (k + 1)) (nI 1) (nI (k + 1) + -nI 1) A else alX8_layPages_b48 nv md Q K f (nI p) (nI s) (nI n0) (0 : Int32) (nI (k + 1) + -nI 1) A) = (if twf sr lr (s + (k + 1)) = true then alX8_layPages_b48 nv md Q K f (nI p) (nI s) (nI (k + 1)) (nI 1) (nI (k + 1) + -nI 1) A else alX8_layPages_b48 nv md Q K f (nI p) (nI s) (nI n0) (0 : Int32) (nI (k + 1) + -nI 1) A) := by
          unfold twf
          cases lr (sr (s + (k + 1)) - 1) <;> cases lr (sr (s + (k + 1))) <;> rfl
        rw [eT]
        have em1 : nI (k + 1) + -nI 1 = nI k := pk_m1 k
        rw [em1]
        by_cases z : twf sr lr (s + (k + 1)) = true
        · rw [if_pos z]
          rw [if_pos z] at hq
          cases f with
          | zero => exact absurd hk2 (by omega)
          | succ f =>
            show aX8_layPages_b48 nv md Q K (alX8_layPages_b48 nv md Q K f) (nI p) (nI s) (nI (k + 1)) (bI true) (nI k) A
            unfold aX8_layPages_b48 aX8_layPages_b123
            rw [brD, if_pos rfl, brD', if_pos rfl]
            exact a8_put (t := true) h hp hp4 (by omega) hq
        · rw [if_neg z]
          rw [if_neg z] at hq
          exact ih k (by omega) (by omega) hq
/-- PAGES 0 .. g - 1 stand in the model -/
def PM (sr : Nat → Nat) (tw : Nat → Bool) (H ns : Nat) (A1 A : q_St) (g : Nat) : Prop := (∀ q m, ¬ (157 ≤ q ∧ q ≤ 160) → (q ≠ 128 ∨ m ≠ 26) → A q m = A1 q m) ∧ A 128 26 = nI g ∧ ∀ r, r < g → A 157 r = nI (sr (pgB tw H ns r)) ∧ A 158 r = nI (sr (pgB tw H ns (r + 1)) - sr (pgB tw H ns r)) ∧ A 159 r = nI (pg1 tw H ns (pgB tw H ns r)).1 ∧ A 160 r = bI (pg1 tw H ns (pgB tw H ns r)).2
theorem a8_pagesL {p : Nat} {Q : q_St → Prop} (hp6 : p ≤ 6) (h : SM p sr lr H ns rc A1) (hH : 1 ≤ H) (hH2 : H ≤ 12) (hq : ∀ (A : q_St) (np : Nat), isNp (twf sr lr) H ns np → PM sr (twf sr lr) H ns A1 A np → Q A) : ∀ (f g : Nat) (A : q_St), ns < f + pgB (twf sr lr) H ns g → (∀ r, r < g → pgB (twf sr lr) H ns r < ns) → PM sr (twf sr lr) H ns A1 A g → alX8_layPages_b12 nv md Q f (nI p) (nI (pgB (twf sr lr) H ns g)) A := by
  have h5 := h.2.2.2.2.1
  intro f
  induction f with
  | zero =>
    intro g A hs1 hr
    have hb := pgB_le hH g hr
    rcases hb.2 with z | z
    · subst z; exact absurd hs1 (by show ¬ ns < 0 + 0; omega)
    · exact absurd hs1 (by omega)
  | succ f ih =>
    intro g A hs1 hr hA
    obtain ⟨a1, a2, a3⟩ := id hA
    have hb := pgB_le hH g hr
    have hbn : pgB (twf sr lr) H ns g ≤ ns := by
      rcases hb.2 with z | z
      · subst z; exact Nat.zero_le _
      · exact z
    show aX8_layPages_b12 nv md Q (alX8_layPages_b12 nv md Q f) (nI p) (nI (pgB (twf sr lr) H ns g)) A
    unfold aX8_layPages_b12 aX8_layPages_b40
    have hm := SM_keep h a1
    have hnx : ∀ n t, (n, t) = pg1 (twf sr lr) H ns (pgB (twf sr lr) H ns g) → pgB (twf sr lr) H ns g < ns → ∀ A' : q_St, PUM sr g (pgB (twf sr lr) H ns g) n t A A' → alX8_layPages_b12 nv md Q f (nI p) (nI (pgB (twf sr lr) H ns g + n)) A' := by
      intro n t hnt hlt A' hP
      have hn := pg1_le (tw := twf sr lr) (ns := ns) (s := pgB (twf sr lr) H ns g) hH hlt
      have eb : pgB (twf sr lr) H ns (g + 1) = pgB (twf sr lr) H ns g + (pg1 (twf sr lr) H ns (pgB (twf sr lr) H ns g)).1 := rfl
      have en : n = (pg1 (twf sr lr) H ns (pgB (twf sr lr) H ns g)).1 := by rw [← hnt]
      have et : t = (pg1 (twf sr lr) H ns (pgB (twf sr lr) H ns g)).2 := by rw [← hnt]
      rw [en, ← eb]
      refine ih (g + 1) A' (by omega) (fun r hr2 => ?_) ⟨fun q m c1 c2 => ?_, ?_, fun r hr2 => ?_⟩
      · by_cases z : r = g
        · rw [z]; omega
        · exact hr r (by omega)
      · rw [hP, if_neg (by omega), if_neg (by omega), if_neg (by omega), if_neg (by omega), if_neg (by omega)]
        exact a1 q m c1 c2
      · rw [hP, if_pos ⟨rfl, rfl⟩]
      · rw [hP, hP, hP, hP]
        by_cases z : r = g
        · subst z
          refine ⟨?_, ?_, ?_, ?_⟩
          · rw [if_neg (by omega), if_pos ⟨rfl, rfl⟩]
          · rw [if_neg (by omega), if_neg (by omega), if_pos ⟨rfl, rfl⟩, eb, en]
          · rw [if_neg (by omega), if_neg (by omega), if_neg (by omega), if_pos ⟨rfl, rfl⟩, en]
          · rw [if_neg (by omega), if_neg (by omega), if_neg (by omega), if_neg (by omega), if_pos ⟨rfl, rfl⟩, et]
        · have hk := a3 r (by omega)
          refine ⟨?_, ?_, ?_, ?_⟩
          · rw [if_neg (by omega), if_neg (by omega), if_neg (by omega), if_neg (by omega), if_neg (by omega)]; exact hk.1
          · rw [if_neg (by omega), if_neg (by omega), if_neg (by omega), if_neg (by omega), if_neg (by omega)]; exact hk.2.1
          · rw [if_neg (by omega), if_neg (by omega), if_neg (by omega), if_neg (by omega), if_neg (by omega)]; exact hk.2.2.1
          · rw [if_neg (by omega), if_neg (by omega), if_neg (by omega), if_neg (by omega), if_neg (by omega)]; exact hk.2.2.2
    rw [hm.1, hm.2.2.1, le_n (by omega) (by omega)]
    by_cases gg : ns ≤ pgB (twf sr lr) H ns g
    · rw [brT gg]
      exact hq A g ⟨by omega, hr⟩ hA
    · rw [brF gg, pk_sub (by omega), lt_n (by omega) (by omega)]
      by_cases g3 : H < ns - pgB (twf sr lr) H ns g
      · rw [brT g3]
        have hpg : pg1 (twf sr lr) H ns (pgB (twf sr lr) H ns g) = pgS (twf sr lr) H (pgB (twf sr lr) H ns g) H := by unfold pg1; rw [if_neg (by omega)]
        exact a8_addL hp6 hm a2 (by omega) hH g3 _ H (by omega) (by unfold q_fuel; omega) (fun A' hP => hnx _ _ hpg.symm (by omega) A' hP)
      · rw [brF g3]
        have hpg : pg1 (twf sr lr) H ns (pgB (twf sr lr) H ns g) = (ns - pgB (twf sr lr) H ns g, true) := by unfold pg1; rw [if_pos (by omega)]
        show aX8_layPages_b48 nv md Q _ (alX8_layPages_b48 nv md Q _ _) (nI p) (nI (pgB (twf sr lr) H ns g)) _ (bI true) _ A
        unfold aX8_layPages_b48 aX8_layPages_b123
        rw [brD, if_pos rfl, brD', if_pos rfl]
        exact a8_put (t := true) hm a2 (by omega) (by omega) (fun A' hP => hnx _ _ hpg.symm (by omega) A' hP)
end CMPG
