/-- the first ROW of SYSTEM k; behind the last one how many ROWS -/
def srf (wd : Nat → Nat) (W rc k : Nat) : Nat := if k = lyN wd W rc then rc else lyF wd W rc k
theorem mono_of {f : Nat → Nat} {n : Nat} (h : ∀ k, k < n → f k ≤ f (k + 1)) : ∀ d a, a + d ≤ n → f a ≤ f (a + d) := by
  intro d
  induction d with
  | zero => intro a _; exact Nat.le_refl _
  | succ d ih =>
    intro a hd
    have h1 := ih a (by omega)
    have h2 := h (a + d) (by omega)
    rw [show a + (d + 1) = a + d + 1 by omega]
    omega
theorem srf_ok {wd : Nat → Nat} {W rc : Nat} (hw : ∀ i, i < rc → wd i ≤ 20) (hW : W ≤ 60) : lyN wd W rc ≤ rc ∧ (∀ k, k < lyN wd W rc → srf wd W rc k < rc) ∧ (∀ k, k < lyN wd W rc → 0 < k → 0 < srf wd W rc k) ∧ srf wd W rc (lyN wd W rc) = rc ∧ (∀ a b, a ≤ b → b ≤ lyN wd W rc → srf wd W rc a ≤ srf wd W rc b) := by
  obtain ⟨b1, b2, b3, b4, b5⟩ := ln_inv hw hW rc (Nat.le_refl rc)
  have hs : ∀ k, k < lyN wd W rc → srf wd W rc k = lyF wd W rc k := fun k hk => by unfold srf; rw [if_neg (by omega)]
  have hn : srf wd W rc (lyN wd W rc) = rc := by unfold srf; rw [if_pos rfl]
  refine ⟨b1, fun k hk => by rw [hs k hk]; exact b3 k hk, fun k hk h0 => ?_, hn, fun a b hab hb => ?_⟩
  · rw [hs k hk]
    have := b4 (k - 1) (by omega)
    rw [show k - 1 + 1 = k by omega] at this
    omega
  · have := mono_of (f := srf wd W rc) (n := lyN wd W rc) (fun k hk => by
      by_cases z : k + 1 = lyN wd W rc
      · rw [z, hn, hs k hk]; have := b3 k hk; omega
      · rw [hs k hk, hs (k + 1) (by omega)]; have := b4 k (by omega); omega) (b - a) a (by omega)
    rwa [show a + (b - a) = b by omega] at this
theorem isNp_ex {tw : Nat → Bool} {H ns : Nat} (hH : 1 ≤ H) : ∀ d g, ns - pgB tw H ns g ≤ d → (∀ r, r < g → pgB tw H ns r < ns) → ∃ np, isNp tw H ns np := by
  intro d
  induction d with
  | zero =>
    intro g h1 h2
    have hb := pgB_le hH g h2
    refine ⟨g, ?_, h2⟩
    rcases hb.2 with z | z
    · subst z
      show (0 : Nat) = ns
      have : ns - 0 ≤ 0 := h1
      omega
    · omega
  | succ d ih =>
    intro g h1 h2
    by_cases z : pgB tw H ns g < ns
    · have hn := pg1_le (tw := tw) (ns := ns) (s := pgB tw H ns g) hH z
      have eb : pgB tw H ns (g + 1) = pgB tw H ns g + (pg1 tw H ns (pgB tw H ns g)).1 := rfl
      refine ih (g + 1) (by omega) (fun r hr => ?_)
      by_cases y : r = g
      · rw [y]; exact z
      · exact h2 r (by omega)
    · have hb := pgB_le hH g h2
      refine ⟨g, ?_, h2⟩
      rcases hb.2 with y | y
      · subst y
        have e : pgB tw H ns 0 = 0 := rfl
        omega
      · omega
section CARR
variable {nv : Nat} {md : Nat → Bool} {A : q_St} {wd : Nat → Nat} {lr : Nat → Bool} {W H rc : Nat}
/-- that so many PAGES there are, of these ROWS -/
def pNp (wd : Nat → Nat) (lr : Nat → Bool) (W H rc g : Nat) : Prop := isNp (twf (srf wd W rc) lr) H (lyN wd W rc) g
def p0 (wd : Nat → Nat) (lr : Nat → Bool) (W H rc r : Nat) : Nat := srf wd W rc (pgB (twf (srf wd W rc) lr) H (lyN wd W rc) r)
def p2 (wd : Nat → Nat) (lr : Nat → Bool) (W H rc r : Nat) : Nat := (pg1 (twf (srf wd W rc) lr) H (lyN wd W rc) (pgB (twf (srf wd W rc) lr) H (lyN wd W rc) r)).1
def p3 (wd : Nat → Nat) (lr : Nat → Bool) (W H rc r : Nat) : Bool := (pg1 (twf (srf wd W rc) lr) H (lyN wd W rc) (pgB (twf (srf wd W rc) lr) H (lyN wd W rc) r)).2
theorem pNp_le (hw : ∀ i, i < rc → wd i ≤ 20) (hW : W ≤ 60) (hH : 1 ≤ H) {g : Nat} (h : pNp wd lr W H rc g) : g ≤ rc := Nat.le_trans (isNp_le hH h) (srf_ok hw hW).1
theorem p0_le (hw : ∀ i, i < rc → wd i ≤ 20) (hW : W ≤ 60) (hH : 1 ≤ H) {g r : Nat} (h : pNp wd lr W H rc g) (hr : r < g) : p0 wd lr W H rc r < rc ∧ p0 wd lr W H rc r ≤ p0 wd lr W H rc (r + 1) ∧ p0 wd lr W H rc (r + 1) ≤ rc := by
  obtain ⟨s1, s2, s3, s4, s5⟩ := srf_ok hw hW
  have hb := h.2 r hr
  have hb2 := (pgB_le (tw := twf (srf wd W rc) lr) (ns := lyN wd W rc) hH (r + 1) (fun q hq => h.2 q (by omega)))
  have hb3 : pgB (twf (srf wd W rc) lr) H (lyN wd W rc) (r + 1) ≤ lyN wd W rc := by
    rcases hb2.2 with z | z
    · exact absurd z (by omega)
    · exact z
  have eb : pgB (twf (srf wd W rc) lr) H (lyN wd W rc) (r + 1) = pgB (twf (srf wd W rc) lr) H (lyN wd W rc) r + (pg1 (twf (srf wd W rc) lr) H (lyN wd W rc) (pgB (twf (srf wd W rc) lr) H (lyN wd W rc) r)).1 := rfl
  refine ⟨s2 _ hb, s5 _ _ (by omega) hb3, ?_⟩
  have := s5 _ _ hb3 (Nat.le_refl _)
  rw [s4] at this
  exact this
def PgC (L : Nat) (wd : Nat → Nat) (lr : Nat → Bool) (W H rc g : Nat) (A : q_St) : Prop := pNp wd lr W H rc g ∧ A L 3 = nI g ∧ ∀ r, r < g → A (L + 2) (r * 4) = nI (p0 wd lr W H rc r) ∧ A (L + 2) (r * 4 + 1) = nI (p0 wd lr W H rc (r + 1) - p0 wd lr W H rc r) ∧ A (L + 2) (r * 4 + 2) = nI (p2 wd lr W H rc r) ∧ A (L + 2) (r * 4 + 3) = bI (p3 wd lr W H rc r)
def PgM (wd : Nat → Nat) (lr : Nat → Bool) (W H rc g : Nat) (A : q_St) : Prop := pNp wd lr W H rc g ∧ A 128 26 = nI g ∧ ∀ r, r < g → A 157 r = nI (p0 wd lr W H rc r) ∧ A 158 r = nI (p0 wd lr W H rc (r + 1) - p0 wd lr W H rc r) ∧ A 159 r = nI (p2 wd lr W H rc r) ∧ A 160 r = bI (p3 wd lr W H rc r)
/-- the ROWS of PART j, of slot p -/
def RwC (j : Nat) (wd : Nat → Nat) (lr : Nat → Bool) (rc : Nat) (A : q_St) : Prop := rc ≤ 40 ∧ (∀ i, i < rc → wd i ≤ 20) ∧ A j 2 = nI rc ∧ (∀ i, i < rc → A (j + 1) (i * 7 + 3) = nI (wd i)) ∧ ∀ i, i < rc → lr i = decide (A (j + 1) (i * 7) = 1 ∧ 2 ≤ (A (j + 1) (i * 7 + 2)).toInt)
def RwM (p : Nat) (wd : Nat → Nat) (lr : Nat → Bool) (rc : Nat) (A : q_St) : Prop := rc ≤ 40 ∧ (∀ i, i < rc → wd i ≤ 20) ∧ A 143 p = nI rc ∧ (∀ i, i < rc → A 147 (40 * p + i) = nI (wd i)) ∧ ∀ i, i < rc → lr i = decide (A 144 (40 * p + i) = 1 ∧ 2 ≤ (A 146 (40 * p + i)).toInt)
theorem a1_arr {L j : Nat} {Q : q_St → Prop} (hL : L ≤ 8) (hj : 64 ≤ j) (R : RwC j wd lr rc A) (hW : W ≤ 60) (hH : 1 ≤ H) (hH2 : H ≤ 12) (hq : ∀ (A' : q_St) (g : Nat), PgC L wd lr W H rc g A' → (∀ q m, q ≠ L → q ≠ L + 1 → q ≠ L + 2 → A' q m = A q m) → Q A') : aX1_arrange nv md L j (nI W) (nI H) Q A := by
  obtain ⟨r1, r2, r3, r4, r5⟩ := R
  obtain ⟨s1, s2, s3, s4, s5⟩ := srf_ok r2 hW
  unfold aX1_arrange
  refine a1_fill hL hj r2 hW r1 r3 r4 (fun B hB hB2 => ?_)
  obtain ⟨c1, c2, c3, c4⟩ := hB
  have hs : SI L j (srf wd W rc) lr (lyN wd W rc) rc (q_u B L 3 0) := by
    refine ⟨by rw [qs (by omega)]; exact c3, fun k hk => ?_, by rw [qn (by omega), c1 _ _ (by omega) (by omega)]; exact r3, fun i hi => by rw [qn (by omega), qn (by omega), c1 _ _ (by omega) (by omega), c1 _ _ (by omega) (by omega)]; exact r5 i hi, by omega, r1, s2, s3, s4, s5⟩
    rw [qn (by omega)]
    unfold srf
    by_cases z : k = lyN wd W rc
    · rw [if_pos z, z]; exact hB2
    · rw [if_neg z]; exact c4 k (by omega)
  show alX1_arrange_b17 nv md Q q_fuel L j (nI H) (nI (pgB (twf (srf wd W rc) lr) H (lyN wd W rc) 0)) (nI 0) (q_u B L 3 0)
  refine a1_arrL hj hL hs hH hH2 (fun A' g hg hP => ?_) _ 0 0 _ (by omega) (by unfold q_fuel; omega) (fun r hr => absurd hr (Nat.not_lt_zero r)) (by omega) ⟨fun _ _ _ _ => rfl, qh, fun r hr => absurd hr (Nat.not_lt_zero r)⟩
  exact hq A' g ⟨hg, hP.2.1, hP.2.2⟩ (fun q m d1 d2 d3 => by rw [hP.1 q m d3 (Or.inl d1), qn d1]; exact c1 q m d1 d2)
theorem a8_layP {p : Nat} {Q : q_St → Prop} (hp : p ≤ 6) (R : RwM p wd lr rc A) (h22 : A 128 22 = nI W) (h23 : A 128 23 = nI H) (hW : W ≤ 60) (hH : 1 ≤ H) (hH2 : H ≤ 12) (hq : ∀ (A' : q_St) (g : Nat), PgM wd lr W H rc g A' → (∀ q m, q ≠ 154 → ¬ (157 ≤ q ∧ q ≤ 160) → (q ≠ 128 ∨ (m ≠ 25 ∧ m ≠ 26)) → A' q m = A q m) → Q A') : aX8_layPages nv md (nI p) Q A := by
  obtain ⟨r1, r2, r3, r4, r5⟩ := R
  obtain ⟨s1, s2, s3, s4, s5⟩ := srf_ok r2 hW
  unfold aX8_layPages
  refine a8_lines hp r2 hW r1 r3 h22 r4 (fun B hB hB2 => ?_)
  obtain ⟨c1, c3, c4⟩ := hB
  have hs : SM p (srf wd W rc) lr H (lyN wd W rc) rc (q_u B 128 26 0) := by
    refine ⟨by rw [qs (by omega)]; exact c3, fun k hk => ?_, by rw [qs (by omega), c1 _ _ (by omega) (by omega)]; exact h23, fun i hi => by rw [qn (by omega), qn (by omega), c1 _ _ (by omega) (by omega), c1 _ _ (by omega) (by omega)]; exact r5 i hi, by omega, r1, s2, s3, s4, s5⟩
    rw [qn (by omega)]
    unfold srf
    by_cases z : k = lyN wd W rc
    · rw [if_pos z, z]; exact hB2
    · rw [if_neg z]; exact c4 k (by omega)
  show alX8_layPages_b12 nv md Q q_fuel (nI p) (nI (pgB (twf (srf wd W rc) lr) H (lyN wd W rc) 0)) (q_u B 128 26 0)
  refine a8_pagesL hp hs hH hH2 (fun A' g hg hP => ?_) _ 0 _ (by show lyN wd W rc < q_fuel + 0; unfold q_fuel; omega) (fun r hr => absurd hr (Nat.not_lt_zero r)) ⟨fun _ _ _ _ => rfl, qh, fun r hr => absurd hr (Nat.not_lt_zero r)⟩
  exact hq A' g ⟨hg, hP.2.1, hP.2.2⟩ (fun q m d1 d2 d3 => by rw [hP.1 q m d2 (by omega), qa, if_neg (by omega)]; exact c1 q m d1 (by omega))
/-- both of a PART that is made -/
theorem rw_of {j p : Nat} (h : pRel A j p) : ∃ rc wd lr, RwC j wd lr rc A ∧ RwM p wd lr rc A := by
  obtain ⟨rc, h1, h2, h3, h4⟩ := h
  refine ⟨rc, fun i => (A 147 (40 * p + i)).toNatClampNeg, fun i => decide (A 144 (40 * p + i) = 1 ∧ 2 ≤ (A 146 (40 * p + i)).toInt), ?_⟩
  have hw : ∀ i, i < rc → A 147 (40 * p + i) = nI (A 147 (40 * p + i)).toNatClampNeg ∧ (A 147 (40 * p + i)).toNatClampNeg ≤ 20 := by
    intro i hi
    obtain ⟨-, -, -, -, -, -, -, -, g9, -⟩ := h4 i hi
    obtain ⟨w, w1, w2⟩ := i_of (x := A 147 (40 * p + i)) (N := 21) (by omega) (by omega) (by omega)
    rw [w2, cl_nI (by omega)]
    exact ⟨rfl, by omega⟩
  refine ⟨⟨h1, fun i hi => (hw i hi).2, h2, fun i hi => ?_, fun i hi => ?_⟩, ⟨h1, fun i hi => (hw i hi).2, h3, fun i hi => (hw i hi).1, fun i hi => rfl⟩⟩
  · rw [(h4 i hi).2.2.2.1]; exact (hw i hi).1
  · have g0 : A (j + 1) (i * 7) = A 144 (40 * p + i) := (h4 i hi).1
    have g2 := (h4 i hi).2.2.1
    show decide (A 144 (40 * p + i) = 1 ∧ 2 ≤ (A 146 (40 * p + i)).toInt) = _
    rw [g0, g2]
theorem a1_fig {L g r w : Nat} {Q : Int32 → q_St → Prop} (h : A L 3 = nI g) (hg : g ≤ 40) (hr : r < g) (hw : w < 4) : aX1_figure nv md L (nI r) (nI w) Q A = Q (A (L + 2) (r * 4 + w)) A := by
  unfold aX1_figure
  rw [h, i_lt, L_0, i_nI (by omega), brF (by omega), le_n (by omega) (by omega), brF (by omega), i_lt, L_0, i_nI (by omega), brF (by omega), e4, lt_n (by omega) (by omega), brT hw, n_am, in_n (by omega) (by omega), cl_nI (by omega)]
end CARR
