section CREN
variable {nv nb : Nat} {md : Nat → Bool} {D A A' : q_St}
theorem c_pgRows {Q : Int32 → q_St → Prop} {R : Nat → Bool} {j1 j2 rc1 rc2 fst n : Nat} (l1 : rc1 ≤ 40) (hR : ∀ i, i < rc1 → i < rc2 → ∀ Q : Int32 → q_St → Prop, aX4_isRowAlike nv md j1 j2 (nI i) Q A = Q (bI (R i)) A) (h1 : fst + n ≤ rc1) (h2 : fst + n ≤ rc2) : ∀ (f k : Nat), k ≤ n → n < f + k → (∀ q, q < k → R (fst + q) = true) → alX7_isPageAlike_b69 nv md Q f j1 j2 (nI (fst + n)) (nI (fst + k)) A = Q (bI (alB (fun k => R (fst + k)) n)) A := by
  intro f
  induction f with
  | zero => intro k a b; exact absurd b (by omega)
  | succ f ih =>
    intro k a b hk
    show aX7_isPageAlike_b69 nv md Q (alX7_isPageAlike_b69 nv md Q f) j1 j2 (nI (fst + n)) (nI (fst + k)) A = _
    unfold aX7_isPageAlike_b69
    rw [le_n (by omega) (by omega), zr_1]
    by_cases h : fst + n ≤ fst + k
    · have ha : alB (fun k => R (fst + k)) n = true := alB_iff.mpr (fun q hq => hk q (by omega))
      rw [brT h, ha]; rfl
    · rw [brF h, hR _ (by omega) (by omega), brD, zr_0, e1, nI_add]
      by_cases z : R (fst + k) = true
      · rw [if_pos z]
        exact ih (k + 1) (by omega) (by omega) (fun q hq => by
          by_cases y : q = k
          · rw [y]; exact z
          · exact hk q (by omega))
      · have ha : alB (fun k => R (fst + k)) n = false := by
          rw [Bool.eq_false_iff]
          intro y
          exact z (alB_iff.mp y k (by omega))
        rw [if_neg z, ha]; rfl
theorem c_pgFig {Q : Int32 → q_St → Prop} {R : Nat → Bool} {j1 j2 rc1 rc2 fst n g1 g2 p : Nat} (l1 : rc1 ≤ 40) (hR : ∀ i, i < rc1 → i < rc2 → ∀ Q : Int32 → q_St → Prop, aX4_isRowAlike nv md j1 j2 (nI i) Q A = Q (bI (R i)) A) (a5 : A 5 3 = nI g1) (a8 : A 8 3 = nI g2) (b1 : g1 ≤ 40) (b2 : g2 ≤ 40) (p1 : p < g1) (p2 : p < g2) (f0 : A 7 (p * 4) = nI fst) (f1 : A 7 (p * 4 + 1) = nI n) (h : alB (fun w => decide (A 7 (p * 4 + w) = A 10 (p * 4 + w))) 4 = true → fst + n ≤ rc1 ∧ fst + n ≤ rc2) : ∀ (f w : Nat), w ≤ 4 → 4 < f + w → (∀ q, q < w → A 7 (p * 4 + q) = A 10 (p * 4 + q)) → alX7_isPageAlike_b3 nv md Q f j1 j2 (nI p) (nI w) A = Q (bI (alB (fun w => decide (A 7 (p * 4 + w) = A 10 (p * 4 + w))) 4 && alB (fun k => R (fst + k)) n)) A := by
  intro f
  induction f with
  | zero => intro w a b; exact absurd b (by omega)
  | succ f ih =>
    intro w a b hw
    show aX7_isPageAlike_b3 nv md Q (alX7_isPageAlike_b3 nv md Q f) j1 j2 (nI p) (nI w) A = _
    unfold aX7_isPageAlike_b3
    rw [e4, le_n (by omega) (by omega)]
    by_cases g : 4 ≤ w
    · have ha : alB (fun w => decide (A 7 (p * 4 + w) = A 10 (p * 4 + w))) 4 = true := alB_iff.mpr (fun q hq => decide_eq_true (hw q (by omega)))
      have hh := h ha
      rw [brT g, show (0 : Int32) = nI 0 from rfl, a1_fig a5 b1 p1 (by omega), show (1 : Int32) = nI 1 from rfl, a1_fig a5 b1 p1 (by omega), ha, Bool.true_and]
      show alX7_isPageAlike_b69 nv md Q q_fuel j1 j2 (A 7 (p * 4) + A 7 (p * 4 + 1)) (A 7 (p * 4)) A = _
      rw [f0, f1, nI_add]
      exact c_pgRows l1 hR hh.1 hh.2 q_fuel 0 (by omega) (by unfold q_fuel; omega) (fun q hq => absurd hq (Nat.not_lt_zero q))
    · rw [brF g, a1_fig a5 b1 p1 (by omega), a1_fig a8 b2 p2 (by omega), zr_0]
      by_cases z : A 7 (p * 4 + w) = A 10 (p * 4 + w)
      · rw [brT z, e1, nI_add]
        exact ih (w + 1) (by omega) (by omega) (fun q hq => by
          by_cases y : q = w
          · rw [y]; exact z
          · exact hw q (by omega))
      · have ha : alB (fun w => decide (A 7 (p * 4 + w) = A 10 (p * 4 + w))) 4 = false := by
          rw [Bool.eq_false_iff]
          intro y
          exact z (of_decide_eq_true (alB_iff.mp y w (by omega)))
        rw [brF z, ha, Bool.false_and]; rfl
theorem c_pgs {Q : Int32 → q_St → Prop} {PG : Nat → Bool} {j1 j2 M : Nat} (hM : M ≤ 40) (hP : ∀ p, p < M → ∀ Q : Int32 → q_St → Prop, aX7_isPageAlike nv md j1 j2 (nI p) Q A = Q (bI (PG p)) A) : ∀ (m f p : Nat), m + p = M → m < f → alX7_pagesAlike_b53 nv md Q f j1 j2 (nI M) (nI p) A = Q (nI (ffS PG m p)) A := by
  intro m
  induction m with
  | zero =>
    intro f p h1 h2
    cases f with
    | zero => exact absurd h2 (by omega)
    | succ f =>
      show aX7_pagesAlike_b53 nv md Q (alX7_pagesAlike_b53 nv md Q f) j1 j2 (nI M) (nI p) A = _
      unfold aX7_pagesAlike_b53
      rw [le_n (by omega) (by omega), brT (by omega)]
      rfl
  | succ m ih =>
    intro f p h1 h2
    cases f with
    | zero => exact absurd h2 (by omega)
    | succ f =>
      show aX7_pagesAlike_b53 nv md Q (alX7_pagesAlike_b53 nv md Q f) j1 j2 (nI M) (nI p) A = Q (nI (if PG p = true then ffS PG m (p + 1) else p)) A
      unfold aX7_pagesAlike_b53
      rw [le_n (by omega) (by omega), brF (by omega), hP p (by omega), brD', e1, nI_add]
      by_cases z : PG p = true
      · rw [if_pos z, if_pos z]
        exact ih f (p + 1) (by omega) (by omega)
      · rw [if_neg z, if_neg z]
theorem m_rowsL {Q : Int32 → q_St → Prop} {K : Int32 → Int32 → Int32 → q_St → Prop} {R : Nat → Bool} {v rc1 rc2 fst n p : Nat} (hv : v < 6) (l1 : rc1 ≤ 40) (hp : p < 40) (hR : ∀ i, i < rc1 → i < rc2 → ∀ Q : Int32 → q_St → Prop, aX8_isLike nv md (nI (40 * v + i)) (nI (240 + i)) Q A = Q (bI (R i)) A) (f0 : A 157 p = nI fst) (f1 : A 158 p = nI n) (h1 : fst + n ≤ rc1) (h2 : fst + n ≤ rc2) : ∀ (m f k : Nat), m + k = n → m + 1 < f → alX8_renew_b192 nv md Q K f (nI v) (nI p) (bI (alB (fun k => R (fst + k)) k)) (nI k) A = K (nI v) (nI p + bI (alB (fun k => R (fst + k)) n)) (bI (alB (fun k => R (fst + k)) n)) A := by
  have hF : ∀ f k, k ≤ n → alB (fun k => R (fst + k)) k = false → alX8_renew_b192 nv md Q K (f + 1) (nI v) (nI p) (bI (alB (fun k => R (fst + k)) k)) (nI k) A = K (nI v) (nI p + bI (alB (fun k => R (fst + k)) n)) (bI (alB (fun k => R (fst + k)) n)) A := by
    intro f k hk z
    have ha : alB (fun k => R (fst + k)) n = false := by
      rw [Bool.eq_false_iff] at z ⊢
      intro y
      exact z (alB_iff.mpr (fun q hq => alB_iff.mp y q (by omega)))
    show aX8_renew_b192 nv md Q K (alX8_renew_b192 nv md Q K f) (nI v) (nI p) (bI (alB (fun k => R (fst + k)) k)) (nI k) A = _
    unfold aX8_renew_b192 aX8_renew_b245 aX8_renew_b255
    rw [z, ha, brT (show bI false = 0 from rfl), brT (show bI false = 0 from rfl)]
    rfl
  intro m
  induction m with
  | zero =>
    intro f k h3 h4
    cases f with
    | zero => exact absurd h4 (by omega)
    | succ f =>
      have ek : k = n := by omega
      subst ek
      by_cases z : alB (fun k => R (fst + k)) k = true
      · show aX8_renew_b192 nv md Q K (alX8_renew_b192 nv md Q K f) (nI v) (nI p) (bI (alB (fun k => R (fst + k)) k)) (nI k) A = _
        unfold aX8_renew_b192 aX8_renew_b245 aX8_renew_b255
        rw [z, brF (show ¬ bI true = 0 by decide), brF (show ¬ bI true = 0 by decide), in_n (by omega) (by omega), cl_nI (by omega), f1, brT (Int32.le_refl _)]
        rfl
      · exact hF f k (Nat.le_refl _) (by simpa using z)
  | succ m ih =>
    intro f k h3 h4
    cases f with
    | zero => exact absurd h4 (by omega)
    | succ f =>
      by_cases z : alB (fun k => R (fst + k)) k = true
      · show aX8_renew_b192 nv md Q K (alX8_renew_b192 nv md Q K f) (nI v) (nI p) (bI (alB (fun k => R (fst + k)) k)) (nI k) A = _
        have es : alB (fun k => R (fst + k)) (k + 1) = (alB (fun k => R (fst + k)) k && R (fst + k)) := rfl
        have ih1 := ih f (k + 1) (by omega) (by omega)
        rw [es, z, Bool.true_and] at ih1
        unfold aX8_renew_b192
        rw [z, brF (show ¬ bI true = 0 by decide), in_n (by omega) (by omega), cl_nI (by omega), f1, le_n (by omega) (by omega), brF (by omega), in_n (by omega) (by omega), in_n (by omega) (by omega), f0, e40, n_ma, nI_add, show (240 : Int32) = nI 240 from rfl, nI_add, nI_add, Nat.add_assoc, Nat.add_assoc, hR _ (by omega) (by omega), e1, nI_add]
        exact ih1
      · exact hF f k (by omega) (by simpa using z)
/-- what the model sets beside each other, of PAGES told before and now -/
def pg4 (A : q_St) (p : Nat) : Bool := decide (A 162 p = A 157 p ∧ A 163 p = A 158 p ∧ A 164 p = A 159 p ∧ A 165 p = A 160 p)
theorem m_pgs {Q : Int32 → q_St → Prop} {R PG : Nat → Bool} {v rc1 rc2 g1 g2 M : Nat} {fst n : Nat → Nat} (hv : v < 6) (l1 : rc1 ≤ 40) (hM : M ≤ 40) (hM1 : M ≤ g1) (hM2 : M ≤ g2) (hM3 : M = g1 ∨ M = g2) (b1 : g1 ≤ 40) (b2 : g2 ≤ 40) (a31 : A 128 31 = nI g1) (a26 : A 128 26 = nI g2) (hR : ∀ i, i < rc1 → i < rc2 → ∀ Q : Int32 → q_St → Prop, aX8_isLike nv md (nI (40 * v + i)) (nI (240 + i)) Q A = Q (bI (R i)) A) (f0 : ∀ p, p < M → A 157 p = nI (fst p)) (f1 : ∀ p, p < M → A 158 p = nI (n p)) (hb : ∀ p, p < M → pg4 A p = true → fst p + n p ≤ rc1 ∧ fst p + n p ≤ rc2) (hPG : ∀ p, p < M → PG p = (pg4 A p && alB (fun k => R (fst p + k)) (n p))) : ∀ (m f p : Nat), m + p = M → m + 1 < f → alX8_renew_b103 nv md Q f (nI v) (nI p) (1 : Int32) A = aX8_renew_b260 nv md Q (nI v) (nI (ffS PG m p)) A := by
  intro m
  induction m with
  | zero =>
    intro f p h3 h4
    cases f with
    | zero => exact absurd h4 (by omega)
    | succ f =>
      show aX8_renew_b103 nv md Q (alX8_renew_b103 nv md Q f) (nI v) (nI p) (1 : Int32) A = aX8_renew_b260 nv md Q (nI v) (nI p) A
      unfold aX8_renew_b103
      rw [brF (show ¬ (1 : Int32) = 0 by decide), a31, le_n (by omega) (by omega)]
      by_cases z : g1 ≤ p
      · rw [brT z]
      · rw [brF z, a26, le_n (by omega) (by omega), brT (by omega)]
  | succ m ih =>
    intro f p h3 h4
    cases f with
    | zero => exact absurd h4 (by omega)
    | succ f =>
      have hp : p < M := by omega
      have e0 : ∀ z : PG p = false, alX8_renew_b103 nv md Q f (nI v) (nI p + 0) (0 : Int32) A = aX8_renew_b260 nv md Q (nI v) (nI (if PG p = true then ffS PG m (p + 1) else p)) A := by
        intro z
        cases f with
        | zero => exact absurd h4 (by omega)
        | succ f =>
          show aX8_renew_b103 nv md Q (alX8_renew_b103 nv md Q f) (nI v) (nI p + nI 0) (0 : Int32) A = _
          unfold aX8_renew_b103
          rw [brT rfl, nI_add, if_neg (by rw [z]; simp), Nat.add_zero]
      show aX8_renew_b103 nv md Q (alX8_renew_b103 nv md Q f) (nI v) (nI p) (1 : Int32) A = aX8_renew_b260 nv md Q (nI v) (nI (if PG p = true then ffS PG m (p + 1) else p)) A
      unfold aX8_renew_b103
      have va : vp_in (nI p) 40 := in_nI (by omega) (by omega)
      simp only [va, true_and]
      rw [brF (show ¬ (1 : Int32) = 0 by decide), a31, le_n (by omega) (by omega), brF (by omega), a26, le_n (by omega) (by omega), brF (by omega), cl_nI (by omega)]
      have hno : pg4 A p = false → aX8_renew_b187 nv md Q (alX8_renew_b103 nv md Q f) (nI v) (nI p) A = aX8_renew_b260 nv md Q (nI v) (nI (if PG p = true then ffS PG m (p + 1) else p)) A := by
        intro z
        have zp : PG p = false := by rw [hPG p hp, z, Bool.false_and]
        show aX8_renew_b192 nv md Q _ (alX8_renew_b192 nv md Q _ _) (nI v) (nI p) (0 : Int32) (0 : Int32) A = _
        unfold aX8_renew_b192 aX8_renew_b245 aX8_renew_b255
        rw [brT rfl, brT rfl]
        exact e0 zp
      by_cases c0 : A 162 p = A 157 p
      · rw [brT' c0]
        by_cases c1 : A 163 p = A 158 p
        · rw [brT' c1]
          by_cases c2 : A 164 p = A 159 p
          · rw [brT' c2]
            by_cases c3 : A 165 p = A 160 p
            · rw [brT' c3]
              have zt : pg4 A p = true := decide_eq_true ⟨c0, c1, c2, c3⟩
              obtain ⟨u1, u2⟩ := hb p hp zt
              have eP : PG p = alB (fun k => R (fst p + k)) (n p) := by rw [hPG p hp, zt, Bool.true_and]
              have eq1 := m_rowsL (nv := nv) (md := md) (Q := Q) (K := alX8_renew_b103 nv md Q f) hv l1 (by omega) hR (f0 p hp) (f1 p hp) u1 u2 (n p) q_fuel 0 (by omega) (by unfold q_fuel; omega)
              refine Eq.trans eq1 ?_
              rw [← eP]
              by_cases z : PG p = true
              · rw [if_pos z, z]
                show alX8_renew_b103 nv md Q f (nI v) (nI p + nI 1) (1 : Int32) A = _
                rw [nI_add]
                exact ih f (p + 1) (by omega) (by omega)
              · have z2 : PG p = false := by simpa using z
                rw [z2]
                have := e0 z2
                rw [z2] at this
                exact this
            · rw [brF' c3]; exact hno (decide_eq_false (fun z => c3 z.2.2.2))
          · rw [brF' c2]; exact hno (decide_eq_false (fun z => c2 z.2.2.1))
        · rw [brF' c1]; exact hno (decide_eq_false (fun z => c1 z.2.1))
      · rw [brF' c0]; exact hno (decide_eq_false (fun z => c0 z.1))
/-- PAGES told before, kept beside -/
def KC (p : Nat) (A0 A : q_St) : Prop := ∀ q m, A q m = if 162 ≤ q ∧ q ≤ 165 ∧ m < p then A0 (q - 5) m else A0 q m
theorem m_cpL {A0 : q_St} {Q : Int32 → q_St → Prop} {v g : Nat} (hg : g ≤ 40) (h26 : A0 128 26 = nI g) (hb : ∀ r, r < g → ∃ t : Bool, A0 160 r = bI t) (hq : ∀ B : q_St, KC g A0 B → aX8_make nv md (nI v) (fun A_15 => aX8_layPages nv md (6 : Int32) (fun A_16 => alX8_renew_b103 nv md Q q_fuel (nI v) (0 : Int32) (1 : Int32) A_16) A_15) B) : ∀ (f p : Nat) (B : q_St), p ≤ g → g < f + p → KC p A0 B → alX8_renew_b26 nv md Q f (nI v) (nI p) B := by
  intro f
  induction f with
  | zero => intro p B h1 h2; exact absurd h2 (by omega)
  | succ f ih =>
    intro p B h1 h2 hB
    show aX8_renew_b26 nv md Q (alX8_renew_b26 nv md Q f) (nI v) (nI p) B
    unfold aX8_renew_b26
    have b26 : B 128 26 = nI g := by rw [hB, if_neg (by omega)]; exact h26
    rw [b26, le_n (by omega) (by omega)]
    by_cases h : g ≤ p
    · rw [brT h]
      have ek : p = g := by omega
      subst ek
      exact hq B hB
    · obtain ⟨t, ht⟩ := hb p (by omega)
      have hB0 : ∀ q, q < 162 → B q p = A0 q p := fun q hq => by rw [hB, if_neg (by omega)]
      rw [brF h, in_n (by omega) (by omega), a_s_n (by omega) (by omega), cl_nI (by omega), in_n (by omega) (by omega), a_s_n (by omega) (by omega), in_n (by omega) (by omega), a_s_n (by omega) (by omega), in_n (by omega) (by omega), a_s_n (by omega) (by omega), e1, nI_add]
      rw [qn (by omega), qn (by omega), qn (by omega), qn (by omega), qn (by omega), qn (by omega), hB0 _ (by omega), hB0 _ (by omega), hB0 _ (by omega), hB0 _ (by omega), ht, bnar]
      refine ih (p + 1) _ (by omega) (by omega) (fun q m => ?_)
      simp only [qa]
      by_cases z : 162 ≤ q ∧ q ≤ 165 ∧ m = p
      · obtain ⟨z1, z2, rfl⟩ := z
        rw [if_pos (c := 162 ≤ q ∧ q ≤ 165 ∧ m < m + 1) (by omega)]
        have hq4 : q = 162 ∨ q = 163 ∨ q = 164 ∨ q = 165 := by omega
        rcases hq4 with e | e | e | e
        · subst e
          rw [if_neg (by omega), if_neg (by omega), if_neg (by omega), if_pos (by omega)]
        · subst e
          rw [if_neg (by omega), if_neg (by omega), if_pos (by omega)]
        · subst e
          rw [if_neg (by omega), if_pos (by omega)]
        · subst e
          rw [if_pos (by omega)]; exact ht.symm
      · rw [if_neg (by omega), if_neg (by omega), if_neg (by omega), if_neg (by omega), hB]
        by_cases y : 162 ≤ q ∧ q ≤ 165 ∧ m < p
        · rw [if_pos y, if_pos (by omega)]
        · rw [if_neg y, if_neg (by omega)]
theorem m_isPart {x : Int32} {Q : Int32 → q_St → Prop} (hn : nv ≤ 6) (h0 : A 128 0 = nI nv) (h142 : ∀ v, v < 6 → A 142 v = bI (md v)) : aX8_isPart nv md x Q A = Q (bI (decide ((0 ≤ x.toInt ∧ x.toInt < nv) ∧ md x.toNatClampNeg = true))) A := by
  unfold aX8_isPart
  rw [a8_isVoice h0 hn, brB', zr_0, zr_1]
  by_cases h : 0 ≤ x.toInt ∧ x.toInt < nv
  · rw [if_pos h]
    obtain ⟨v, hv, rfl⟩ := i_of h.1 h.2 (by omega)
    rw [in_n (by omega) (by omega), cl_nI (by omega), h142 v (by omega), brD']
    by_cases g : md v = true
    · rw [if_pos g, decide_eq_true ⟨h, g⟩]; rfl
    · rw [if_neg g, decide_eq_false (fun z => g z.2)]; rfl
  · rw [if_neg h, decide_eq_false (fun z => h z.1)]; rfl
/-- PART v and the draft trade places -/
def swp (v : Nat) (A : q_St) : q_St := fun q => if 64 + 5 * v ≤ q ∧ q ≤ 64 + 5 * v + 4 then A (q + (30 - 5 * v)) else if 94 ≤ q ∧ q ≤ 98 then A (q - (30 - 5 * v)) else A q
theorem swp_o {v q : Nat} (h : ¬ (64 + 5 * v ≤ q ∧ q ≤ 64 + 5 * v + 4)) (g : ¬ (94 ≤ q ∧ q ≤ 98)) : swp v A q = A q := by unfold swp; rw [if_neg h, if_neg g]
theorem swp_v {v d : Nat} (hv : v < 6) (hd : d ≤ 4) : swp v A (64 + 5 * v + d) = A (94 + d) := by
  unfold swp
  rw [if_pos (by omega)]
  congr 1
  omega
theorem PrC.mv {B : q_St} {v j j' rc : Nat} (h : PrC nb D v j rc A) (hB : ∀ d, d ≤ 4 → B (j' + d) = A (j + d)) : PrC nb D v j' rc B := by
  have b0 : B j' = A j := hB 0 (by omega)
  refine ⟨by rw [b0]; exact h.1, fun i hi => ?_⟩
  have := h.2 i hi
  unfold RCs RC at this ⊢
  rw [hB 1 (by omega), hB 3 (by omega), hB 4 (by omega)]
  exact this
theorem lkM_congr {B : q_St} (h : ∀ q, 143 ≤ q → B q = A q) (a b n : Nat) : lkM B a b n = lkM A a b n := by
  unfold lkM
  rw [h 144 (by omega), h 145 (by omega), h 146 (by omega), h 147 (by omega), h 148 (by omega), h 149 (by omega), h 150 (by omega), h 151 (by omega)]
end CREN
