/-- behind how many SYSTEMS a PAGE ends, from k SYSTEMS downwards -/
def pgS (tw : Nat → Bool) (H s : Nat) : Nat → Nat × Bool
  | 0 => (H, false)
  | k + 1 => if H ≤ k + 1 + 2 then (if tw (s + (k + 1)) = true then (k + 1, true) else pgS tw H s k) else (H, false)
def pg1 (tw : Nat → Bool) (H ns s : Nat) : Nat × Bool := if ns - s ≤ H then (ns - s, true) else pgS tw H s H
/-- the SYSTEM that PAGE p begins with -/
def pgB (tw : Nat → Bool) (H ns : Nat) : Nat → Nat
  | 0 => 0
  | p + 1 => pgB tw H ns p + (pg1 tw H ns (pgB tw H ns p)).1
theorem pgS_le {tw : Nat → Bool} {H s : Nat} (hH : 1 ≤ H) : ∀ k, k ≤ H → 1 ≤ (pgS tw H s k).1 ∧ (pgS tw H s k).1 ≤ H := by
  intro k
  induction k with
  | zero => intro _; exact ⟨hH, Nat.le_refl H⟩
  | succ k ih =>
    intro hk
    have hk2 := ih (by omega)
    show 1 ≤ (if H ≤ k + 1 + 2 then (if tw (s + (k + 1)) = true then (k + 1, true) else pgS tw H s k) else (H, false)).1 ∧ (if H ≤ k + 1 + 2 then (if tw (s + (k + 1)) = true then (k + 1, true) else pgS tw H s k) else (H, false)).1 ≤ H
    split
    · split
      · exact ⟨by show 1 ≤ k + 1; omega, hk⟩
      · exact hk2
    · exact ⟨hH, Nat.le_refl H⟩
theorem pg1_le {tw : Nat → Bool} {H ns s : Nat} (hH : 1 ≤ H) (hs : s < ns) : 1 ≤ (pg1 tw H ns s).1 ∧ (pg1 tw H ns s).1 ≤ ns - s := by
  unfold pg1
  split
  · exact ⟨by show 1 ≤ ns - s; omega, Nat.le_refl _⟩
  · have hk2 := pgS_le (tw := tw) (s := s) hH H (Nat.le_refl H)
    exact ⟨hk2.1, by omega⟩
theorem pgB_le {tw : Nat → Bool} {H ns : Nat} (hH : 1 ≤ H) : ∀ p, (∀ r, r < p → pgB tw H ns r < ns) → p ≤ pgB tw H ns p ∧ (p = 0 ∨ pgB tw H ns p ≤ ns) := by
  intro p
  induction p with
  | zero => intro _; exact ⟨Nat.le_refl 0, Or.inl rfl⟩
  | succ p ih =>
    intro hr
    have hk1 := ih (fun r h => hr r (by omega))
    have hk2 := pg1_le (tw := tw) hH (hr p (by omega))
    have he : pgB tw H ns (p + 1) = pgB tw H ns p + (pg1 tw H ns (pgB tw H ns p)).1 := rfl
    rw [he]
    have hk3 := hr p (by omega)
    exact ⟨by omega, Or.inr (by omega)⟩
/-- how many PAGES -/
def isNp (tw : Nat → Bool) (H ns np : Nat) : Prop := pgB tw H ns np = ns ∧ ∀ r, r < np → pgB tw H ns r < ns
theorem isNp_un {tw : Nat → Bool} {H ns n m : Nat} (hn : isNp tw H ns n) (hm : isNp tw H ns m) : n = m := by
  rcases Nat.lt_trichotomy n m with h | h | h
  · have := hm.2 n h; rw [hn.1] at this; omega
  · exact h
  · have := hn.2 m h; rw [hm.1] at this; omega
theorem isNp_le {tw : Nat → Bool} {H ns n : Nat} (hH : 1 ≤ H) (h : isNp tw H ns n) : n ≤ ns := by
  have := (pgB_le hH n h.2).1
  rw [h.1] at this
  exact this
section CPAG
variable {nv : Nat} {md : Nat → Bool} {A1 : q_St} {sr : Nat → Nat} {lr : Nat → Bool} {H ns rc : Nat}
/-- what stands behind the SYSTEMS of layout L, and of the PART j: sr, lr -/
def SI (L j : Nat) (sr : Nat → Nat) (lr : Nat → Bool) (ns rc : Nat) (A : q_St) : Prop := A L 2 = nI ns ∧ (∀ k, k ≤ ns → A (L + 1) k = nI (sr k)) ∧ A j 2 = nI rc ∧ (∀ i, i < rc → lr i = decide (A (j + 1) (i * 7) = 1 ∧ 2 ≤ (A (j + 1) (i * 7 + 2)).toInt)) ∧ ns ≤ 40 ∧ rc ≤ 40 ∧ (∀ k, k < ns → sr k < rc) ∧ (∀ k, k < ns → 0 < k → 0 < sr k) ∧ sr ns = rc ∧ (∀ a b, a ≤ b → b ≤ ns → sr a ≤ sr b)
def twf (sr : Nat → Nat) (lr : Nat → Bool) (k : Nat) : Bool := lr (sr k - 1) || lr (sr k)
theorem a1_rowAt {L j : Nat} {A : q_St} {Q : Int32 → q_St → Prop} (h : SI L j sr lr ns rc A) {k : Nat} (hk : k ≤ ns) : aX1_rowAt nv md L (nI k) Q A = Q (nI (sr k)) A := by
  obtain ⟨h1, h2, h3, h4, h5, h6, h7, h8, h9, h10⟩ := h
  unfold aX1_rowAt
  rw [h1, i_lt, L_0, i_nI (by omega), lt_n (by omega) (by omega), brF (by omega), brF (by omega), in_n (by omega) (by omega), cl_nI (by omega), h2 k hk]
theorem a4_longRest {L j : Nat} {A : q_St} {Q : Int32 → q_St → Prop} (h : SI L j sr lr ns rc A) {i : Nat} (hi : i < rc) : aX4_isLongRest nv md j (nI i) Q A = Q (bI (lr i)) A := by
  obtain ⟨h1, h2, h3, h4, h5, h6, h7, h8, h9, h10⟩ := h
  unfold aX4_isLongRest
  rw [h3, i_lt, L_0, i_nI (by omega), le_n (by omega) (by omega), brF (by omega), brF (by omega), zr_0, zr_1, e7, show (2 : Int32) = nI 2 from rfl, e0, n_am, n_am, in_n (by omega) (by omega), in_n (by omega) (by omega), cl_nI (by omega), cl_nI (by omega), h4 i hi]
  simp only [Nat.add_zero]
  by_cases g1 : A (j + 1) (i * 7) = 1
  · rw [brT' g1, i_lt, show (nI 2).toInt = 2 from by decide]
    by_cases g2 : (A (j + 1) (i * 7 + 2)).toInt < 2
    · rw [brT g2, decide_eq_false (by omega)]; rfl
    · rw [brF g2, decide_eq_true ⟨g1, by omega⟩]; rfl
  · rw [brF' g1, decide_eq_false (fun z => g1 z.1)]; rfl
theorem a1_turns {L j : Nat} {A : q_St} {Q : Int32 → q_St → Prop} (h : SI L j sr lr ns rc A) {k : Nat} (hk : k < ns) (h0 : 0 < k) : aX1_turnsWell nv md L j (nI k) Q A = Q (bI (twf sr lr k)) A := by
  have h7 := h.2.2.2.2.2.2.1 k hk
  have h8 := h.2.2.2.2.2.2.2.1 k hk h0
  have h6 := h.2.2.2.2.2.1
  unfold aX1_turnsWell aX1_turnsWell_b24
  rw [a1_rowAt h (by omega)]
  have ek : nI (sr k) - 1 = nI (sr k - 1) := by
    have := nI_pred (sr k - 1)
    rw [show sr k - 1 + 1 = sr k by omega] at this
    exact this
  rw [ek, a4_longRest h (by omega), a4_longRest h h7, zr_0, zr_1, brD, brD']
  unfold twf
  cases lr (sr k - 1) <;> cases lr (sr k) <;> simp [bI]
theorem SI_keep {L j : Nat} {A A' : q_St} (hj : 64 ≤ j) (hL : L ≤ 8) (h : SI L j sr lr ns rc A) (hA : ∀ q m, q ≠ L + 2 → (q ≠ L ∨ m ≠ 3) → A' q m = A q m) : SI L j sr lr ns rc A' := by
  obtain ⟨h1, h2, h3, h4, h5, h6, h7, h8, h9, h10⟩ := h
  refine ⟨by rw [hA _ _ (by omega) (by omega)]; exact h1, fun k hk => by rw [hA _ _ (by omega) (by omega)]; exact h2 k hk, by rw [hA _ _ (by omega) (by omega)]; exact h3, fun i hi => by rw [hA _ _ (by omega) (by omega), hA _ _ (by omega) (by omega)]; exact h4 i hi, h5, h6, h7, h8, h9, h10⟩
/-- PAGE p is put -/
def PUT (L : Nat) (sr : Nat → Nat) (p s n : Nat) (t : Bool) (A A' : q_St) : Prop := ∀ q m, A' q m = if q = L ∧ m = 3 then nI (p + 1) else if q = L + 2 ∧ m = p * 4 then nI (sr s) else if q = L + 2 ∧ m = p * 4 + 1 then nI (sr (s + n) - sr s) else if q = L + 2 ∧ m = p * 4 + 2 then nI n else if q = L + 2 ∧ m = p * 4 + 3 then bI t else A q m
theorem a1_put {L j p s n : Nat} {t : Bool} {A : q_St} {Q : q_St → Prop} (hj : 64 ≤ j) (hL : L ≤ 8) (h : SI L j sr lr ns rc A) (hp : A L 3 = nI p) (hp4 : p < 40) (hs : s + n ≤ ns) (hq : ∀ A' : q_St, PUT L sr p s n t A A' → Q A') : aX1_putPage nv md L (nI s) (nI n) (bI t) Q A := by
  have h5 := h.2.2.2.2.1
  have h10 := h.2.2.2.2.2.2.2.2.2 s (s + n) (by omega) hs
  unfold aX1_putPage
  rw [hp, e40, lt_n (by omega) (by omega), brT hp4, e1, nI_add]
  have k1 : SI L j sr lr ns rc (q_u A L 3 (nI (p + 1))) := SI_keep hj hL h (fun q m c1 c2 => by rw [qa, if_neg (by omega)])
  show aX1_rowAt nv md L (nI s) _ (q_u A L 3 (nI (p + 1)))
  rw [a1_rowAt k1 (by omega), e4, e0, show (2 : Int32) = nI 2 from rfl, show (3 : Int32) = nI 3 from rfl]
  simp only [n_am]
  rw [a_s_n (by omega) (by omega)]
  have k2 : SI L j sr lr ns rc (q_u (q_u A L 3 (nI (p + 1))) (L + 2) (p * 4 + 0) (nI (sr s))) := SI_keep hj hL k1 (fun q m c1 c2 => by rw [qn c1])
  rw [nI_add, a1_rowAt k2 hs, a1_rowAt k2 (by omega), a_s_n (by omega) (by omega), a_s_n (by omega) (by omega), a_s_n (by omega) (by omega), pk_sub h10]
  refine hq _ (fun q m => ?_)
  simp only [qa, Nat.add_zero]
  by_cases g0 : q = L ∧ m = 3
  · repeat (first | rw [if_pos (by omega)] | rw [if_neg (by omega)])
  · by_cases g1 : q = L + 2 ∧ m = p * 4
    · repeat (first | rw [if_pos (by omega)] | rw [if_neg (by omega)])
    · by_cases g2 : q = L + 2 ∧ m = p * 4 + 1
      · repeat (first | rw [if_pos (by omega)] | rw [if_neg (by omega)])
      · by_cases g3 : q = L + 2 ∧ m = p * 4 + 2
        · repeat (first | rw [if_pos (by omega)] | rw [if_neg (by omega)])
        · by_cases g4 : q = L + 2 ∧ m = p * 4 + 3
          · repeat (first | rw [if_pos (by omega)] | rw [if_neg (by omega)])
          · repeat (first | rw [if_pos (by omega)] | rw [if_neg (by omega)])
theorem a1_addL {L j p s : Nat} {A : q_St} {Q : Int32 → q_St → Prop} (hj : 64 ≤ j) (hL : L ≤ 8) (h : SI L j sr lr ns rc A) (hp : A L 3 = nI p) (hp4 : p < 40) (hH : 1 ≤ H) (hHs : H < ns - s) : ∀ (f k : Nat), k ≤ H → k < f → (∀ A' : q_St, PUT L sr p s (pgS (twf sr lr) H s k).1 (pgS (twf sr lr) H s k).2 A A' → Q (nI (pgS (twf sr lr) H s k).1) A') → alX1_addPage_b28 nv md Q f L j (nI s) (nI H) (nI k) A := by
  have h5 := h.2.2.2.2.1
  intro f
  induction f with
  | zero => intro k hk1 hk2; exact absurd hk2 (by omega)
  | succ f ih =>
    intro k hk1 hk2 hq
    show aX1_addPage_b28 nv md Q (alX1_addPage_b28 nv md Q f) L j (nI s) (nI H) (nI k) A
    unfold aX1_addPage_b28 aX1_addPage_b71
    have e2 : (nI k < nI H - 2) = (k + 2 < H) := by
      rw [i_lt, i_nI (by omega), i_sub, i_nI (by omega), L_2]
      · rw [eq_iff_iff]; omega
      · rw [i_nI (by omega), L_2]; omega
      · rw [i_nI (by omega), L_2]; omega
    rw [e2, e1, lt_n (by omega) (by omega)]
    cases k with
    | zero =>
      rw [brT (by omega)]
      exact a1_put (t := false) hj hL h hp hp4 (by omega) hq
    | succ k =>
      rw [brF (by omega)]
      have he : pgS (twf sr lr) H s (k + 1) = if H ≤ k + 1 + 2 then (if twf sr lr (s + (k + 1)) = true then (k + 1, true) else pgS (twf sr lr) H s k) else (H, false) := rfl
      rw [he] at hq
      by_cases g : k + 1 + 2 < H
      · rw [brT g]
        rw [if_neg (by omega)] at hq
        exact a1_put (t := false) hj hL h hp hp4 (by omega) hq
      · rw [brF g, nI_add, a1_turns h (by omega) (by omega), brD']
        rw [if_pos (by omega)] at hq
        by_cases z : twf sr lr (s + (k + 1)) = true
        · rw [if_pos z]
          rw [if_pos z] at hq
          exact a1_put (t := true) hj hL h hp hp4 (by omega) hq
        · rw [if_neg z]
          rw [if_neg z] at hq
          rw [show nI (k + 1) + (-nI 1) = nI k from pk_m1 k]
          exact ih k (by omega) (by omega) hq
theorem a1_add {L j p s : Nat} {A : q_St} {Q : Int32 → q_St → Prop} (hj : 64 ≤ j) (hL : L ≤ 8) (h : SI L j sr lr ns rc A) (hp : A L 3 = nI p) (hp4 : p < 40) (hH : 1 ≤ H) (hH2 : H ≤ 12) (hs : s < ns) (hq : ∀ A' : q_St, PUT L sr p s (pg1 (twf sr lr) H ns s).1 (pg1 (twf sr lr) H ns s).2 A A' → Q (nI (pg1 (twf sr lr) H ns s).1) A') : aX1_addPage nv md L j (nI s) (nI H) Q A := by
  have h5 := h.2.2.2.2.1
  unfold aX1_addPage
  rw [h.1, pk_sub (by omega), lt_n (by omega) (by omega)]
  unfold pg1 at hq
  by_cases g : H < ns - s
  · rw [brT g]
    rw [if_neg (by omega)] at hq
    exact a1_addL hj hL h hp hp4 hH g _ H (by omega) (by unfold q_fuel; omega) hq
  · rw [brF g]
    rw [if_pos (by omega)] at hq
    exact a1_put (t := true) hj hL h hp hp4 (by omega) hq
/-- PAGES 0 .. p - 1 stand in layout L -/
def PC (L : Nat) (sr : Nat → Nat) (tw : Nat → Bool) (H ns : Nat) (A1 A : q_St) (p : Nat) : Prop := (∀ q m, q ≠ L + 2 → (q ≠ L ∨ m ≠ 3) → A q m = A1 q m) ∧ A L 3 = nI p ∧ ∀ r, r < p → A (L + 2) (r * 4) = nI (sr (pgB tw H ns r)) ∧ A (L + 2) (r * 4 + 1) = nI (sr (pgB tw H ns (r + 1)) - sr (pgB tw H ns r)) ∧ A (L + 2) (r * 4 + 2) = nI (pg1 tw H ns (pgB tw H ns r)).1 ∧ A (L + 2) (r * 4 + 3) = bI (pg1 tw H ns (pgB tw H ns r)).2
theorem a1_arrL {L j : Nat} {Q : q_St → Prop} (hj : 64 ≤ j) (hL : L ≤ 8) (h : SI L j sr lr ns rc A1) (hH : 1 ≤ H) (hH2 : H ≤ 12) (hq : ∀ (A : q_St) (np : Nat), isNp (twf sr lr) H ns np → PC L sr (twf sr lr) H ns A1 A np → Q A) : ∀ (f s p : Nat) (A : q_St), s ≤ ns → ns < f + s → (∀ r, r < p → pgB (twf sr lr) H ns r < ns) → s ≤ pgB (twf sr lr) H ns p → PC L sr (twf sr lr) H ns A1 A p → alX1_arrange_b17 nv md Q f L j (nI H) (nI (pgB (twf sr lr) H ns p)) (nI s) A := by
  have h5 := h.2.2.2.2.1
  intro f
  induction f with
  | zero => intro s p A hs1 hs2; exact absurd hs2 (by omega)
  | succ f ih =>
    intro s p A hs1 hs2 hr hsp hA
    obtain ⟨a1, a2, a3⟩ := id hA
    have hb := pgB_le hH p hr
    have hbn : pgB (twf sr lr) H ns p ≤ ns := by
      rcases hb.2 with z | z
      · subst z; exact Nat.zero_le _
      · exact z
    show aX1_arrange_b17 nv md Q (alX1_arrange_b17 nv md Q f) L j (nI H) (nI (pgB (twf sr lr) H ns p)) (nI s) A
    unfold aX1_arrange_b17 aX1_arrange_b46
    have hs3 : A L 2 = nI ns := by rw [a1 _ _ (by omega) (by omega)]; exact h.1
    rw [hs3, le_n (by omega) (by omega), lt_n (by omega) (by omega)]
    by_cases g : ns ≤ s
    · rw [brT g]
      exact hq A p ⟨by omega, hr⟩ hA
    · rw [brF g]
      by_cases g2 : s < pgB (twf sr lr) H ns p
      · rw [brT g2, e1, nI_add]
        exact ih (s + 1) p A (by omega) (by omega) hr (by omega) hA
      · rw [brF g2]
        have es : s = pgB (twf sr lr) H ns p := by omega
        refine a1_add hj hL (SI_keep hj hL h a1) a2 (by omega) hH hH2 (by omega) (fun A' hP => ?_)
        have hn := pg1_le (tw := twf sr lr) (ns := ns) (s := s) hH (by omega)
        have eb : pgB (twf sr lr) H ns (p + 1) = s + (pg1 (twf sr lr) H ns s).1 := by
          show pgB (twf sr lr) H ns p + (pg1 (twf sr lr) H ns (pgB (twf sr lr) H ns p)).1 = _
          rw [← es]
        rw [nI_add, ← eb, e1, nI_add]
        refine ih (s + 1) (p + 1) A' (by omega) (by omega) (fun r hr2 => ?_) (by omega) ⟨fun q m c1 c2 => ?_, ?_, fun r hr2 => ?_⟩
        · by_cases z : r = p
          · rw [z]; omega
          · exact hr r (by omega)
        · rw [hP, if_neg (by omega), if_neg (by omega), if_neg (by omega), if_neg (by omega), if_neg (by omega)]
          exact a1 q m c1 c2
        · rw [hP, if_pos ⟨rfl, rfl⟩]
        · by_cases z : r = p
          · subst z
            rw [hP, hP, hP, hP, eb, ← es]
            refine ⟨?_, ?_, ?_, ?_⟩
            · rw [if_neg (by omega), if_pos ⟨rfl, rfl⟩]
            · rw [if_neg (by omega), if_neg (by omega), if_pos ⟨rfl, rfl⟩]
            · rw [if_neg (by omega), if_neg (by omega), if_neg (by omega), if_pos ⟨rfl, rfl⟩]
            · rw [if_neg (by omega), if_neg (by omega), if_neg (by omega), if_neg (by omega), if_pos ⟨rfl, rfl⟩]
          · have hk := a3 r (by omega)
            rw [hP, hP, hP, hP]
            refine ⟨?_, ?_, ?_, ?_⟩
            · rw [if_neg (by omega), if_neg (by omega), if_neg (by omega), if_neg (by omega), if_neg (by omega)]; exact hk.1
            · rw [if_neg (by omega), if_neg (by omega), if_neg (by omega), if_neg (by omega), if_neg (by omega)]; exact hk.2.1
            · rw [if_neg (by omega), if_neg (by omega), if_neg (by omega), if_neg (by omega), if_neg (by omega)]; exact hk.2.2.1
            · rw [if_neg (by omega), if_neg (by omega), if_neg (by omega), if_neg (by omega), if_neg (by omega)]; exact hk.2.2.2
end CPAG
