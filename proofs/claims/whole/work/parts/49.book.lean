theorem n_and : ∀ n, n < 400 → nI n + 1 + (nI n &&& 1) = nI (n + 1 + n % 2) := by decide +kernel
theorem n_mod2 : ∀ n, n < 400 → nI n - nI n / 2 * 2 = nI (n % 2) := by decide +kernel
/-- the last number in THE BOOK ahead of VOICE v -/
def bkN (np : Nat → Nat) : Nat → Nat
  | 0 => 0
  | v + 1 => if np v = 0 then bkN np v else bkN np v + 1 + bkN np v % 2 + np v - 1
theorem bkN_le {np : Nat → Nat} : ∀ n, (∀ v, v < n → np v ≤ 40) → bkN np n ≤ 41 * n := by
  intro n
  induction n with
  | zero => intro _; exact Nat.le_refl 0
  | succ n ih =>
    intro h
    have h1 := ih (fun v hv => h v (by omega))
    have h2 := h n (by omega)
    show (if np n = 0 then bkN np n else bkN np n + 1 + bkN np n % 2 + np n - 1) ≤ _
    split <;> omega
section CBOOK
variable {nv nb : Nat} {md : Nat → Bool} {A A' : q_St} {W H rc : Nat} {np : Nat → Nat} {wd : Nat → Nat} {lr : Nat → Bool}
theorem RwC.keep {v : Nat} (hv : v < 6) (h : RwC (64 + 5 * v) wd lr rc A) (K : Keep A A') : RwC (64 + 5 * v) wd lr rc A' := by
  obtain ⟨h1, h2, h3, h4, h5⟩ := h
  have k0 : A' (64 + 5 * v) = A (64 + 5 * v) := K.arr (by intro k; simp [scr]; omega)
  have k1 : A' (64 + 5 * v + 1) = A (64 + 5 * v + 1) := K.arr (by intro k; simp [scr]; omega)
  refine ⟨h1, h2, by rw [k0]; exact h3, by rw [k1]; exact h4, by rw [k1]; exact h5⟩
theorem RwM.keep {v : Nat} (hv : v < 6) (h : RwM v wd lr rc A) (K : Keep A A') : RwM v wd lr rc A' := by
  obtain ⟨h1, h2, h3, h4, h5⟩ := h
  refine ⟨h1, h2, by rw [K _ _ (by simp [scr]; omega)]; exact h3, fun i hi => by rw [K _ _ (by simp [scr]; omega)]; exact h4 i hi, fun i hi => by rw [K 144 _ (by simp [scr]; omega), K 146 _ (by simp [scr]; omega)]; exact h5 i hi⟩
/-- what stands of PAGES -/
def EnvB (nv : Nat) (md : Nat → Bool) (W H : Nat) (np : Nat → Nat) (A : q_St) : Prop :=
  (A 0 4 = nI W ∧ A 0 5 = nI H ∧ A 128 22 = nI W ∧ A 128 23 = nI H ∧ W ≤ 60 ∧ 1 ≤ H ∧ H ≤ 12) ∧
  (∀ v, v < nv → md v = true → ∃ rc wd lr, RwC (64 + 5 * v) wd lr rc A ∧ RwM v wd lr rc A ∧ pNp wd lr W H rc (np v)) ∧
  (∀ v, md v = true → v < nv) ∧ (∀ v, md v = false → np v = 0) ∧ nv ≤ 6 ∧ A 128 0 = nI nv ∧ ∀ v, v < 6 → A 142 v = bI (md v)
theorem EnvB.keep (E : EnvB nv md W H np A) (K : Keep A A') : EnvB nv md W H np A' := by
  obtain ⟨⟨a1, a2, a3, a4, a5, a6, a7⟩, b, c, d, e, f, g⟩ := E
  refine ⟨⟨by rw [K _ _ (by simp [scr])]; exact a1, by rw [K _ _ (by simp [scr])]; exact a2, by rw [K _ _ (by simp [scr])]; exact a3, by rw [K _ _ (by simp [scr])]; exact a4, a5, a6, a7⟩, fun v hv hm => ?_, c, d, e, by rw [K _ _ (by simp [scr])]; exact f, fun v hv => by rw [K _ _ (by simp [scr])]; exact g v hv⟩
  obtain ⟨rc, wd, lr, r1, r2, r3⟩ := b v hv hm
  exact ⟨rc, wd, lr, r1.keep (by omega) K, r2.keep (by omega) K, r3⟩
theorem EnvB.np_le (E : EnvB nv md W H np A) (v : Nat) : np v ≤ 40 := by
  by_cases hm : md v = true
  · obtain ⟨rc, wd, lr, r1, r2, r3⟩ := E.2.1 v (E.2.2.1 v hm) hm
    exact Nat.le_trans (pNp_le r1.2.1 E.1.2.2.2.2.1 E.1.2.2.2.2.2.1 r3) r1.1
  · rw [E.2.2.2.1 v (by simpa using hm)]; omega
theorem env_of (C : Corr nv md nb A) (hm : ∀ v, md v = true → v < nv) : ∃ W H np, EnvB nv md W H np A := by
  obtain ⟨g1, g2, g3, g4, g5, g6⟩ := C.2.2.2.2.2.1
  obtain ⟨W, hW, eW⟩ := i_of (x := A 128 22) (N := 61) (by omega) (by omega) (by omega)
  obtain ⟨H, hH, eH⟩ := i_of (x := A 128 23) (N := 13) (by omega) (by omega) (by omega)
  have hH1 : 1 ≤ H := by rw [eH, i_nI (by omega)] at g5; omega
  have hex : ∀ v, ∃ g, (md v = true → ∃ rc wd lr, RwC (64 + 5 * v) wd lr rc A ∧ RwM v wd lr rc A ∧ pNp wd lr W H rc g) ∧ (md v = false → g = 0) := by
    intro v
    by_cases h : md v = true
    · have hv := hm v h
      have hn := C.1.1
      obtain ⟨rc, wd, lr, r1, r2⟩ := rw_of ((C.2.2.2.2.2.2 v (by omega)).1 h).2
      obtain ⟨g, hg⟩ := isNp_ex (tw := twf (srf wd W rc) lr) (ns := lyN wd W rc) hH1 _ 0 (Nat.le_refl _) (fun r hr => absurd hr (Nat.not_lt_zero r))
      exact ⟨g, fun _ => ⟨rc, wd, lr, r1, r2, hg⟩, fun z => absurd z (by rw [h]; simp)⟩
    · exact ⟨0, fun z => absurd z h, fun _ => rfl⟩
  obtain ⟨np, hnp⟩ := Classical.axiomOfChoice hex
  refine ⟨W, H, np, ⟨by rw [g1, eW], by rw [g2, eH], eW, eH, by omega, hH1, by omega⟩, fun v _ h => (hnp v).1 h, hm, fun v h => (hnp v).2 h, C.1.1, C.1.2.2.2.1, fun v hv => ?_⟩
  have h7 := C.2.2.2.2.2.2 v hv
  by_cases h : md v = true
  · rw [(h7.1 h).1, h]; rfl
  · have h' : md v = false := by simpa using h
    rw [h7.2 h', h']; rfl
theorem keep5 {B : q_St} (h : ∀ q m, q ≠ 5 → q ≠ 5 + 1 → q ≠ 5 + 2 → B q m = A q m) : Keep A B := by
  intro i k hs
  refine h i k ?_ ?_ ?_ <;> (intro e; subst e; simp [scr] at hs)
theorem keep8 {B : q_St} (h : ∀ q m, q ≠ 8 → q ≠ 8 + 1 → q ≠ 8 + 2 → B q m = A q m) : Keep A B := by
  intro i k hs
  refine h i k ?_ ?_ ?_ <;> (intro e; subst e; simp [scr] at hs)
theorem keepM {B : q_St} (h : ∀ q m, q ≠ 154 → ¬ (157 ≤ q ∧ q ≤ 160) → (q ≠ 128 ∨ (m ≠ 25 ∧ m ≠ 26)) → B q m = A q m) : Keep A B := by
  intro i k hs
  have h1 : ¬ 152 ≤ i := by intro e; simp [scr, e] at hs
  refine h i k (by omega) (by omega) ?_
  by_cases e : i = 128
  · right
    subst e
    refine ⟨?_, ?_⟩ <;> (intro e; subst e; simp [scr] at hs)
  · exact Or.inl e
theorem a7_pc (E : EnvB nv md W H np A) {v : Nat} (hv : v < 6) {Q : Int32 → q_St → Prop} (hq : ∀ B : q_St, Keep A B → (md v = true → ∃ rc wd lr, RwM v wd lr rc A ∧ PgC 5 wd lr W H rc (np v) B) → Q (nI (np v)) B) : aX7_pageCountOf nv md (nI v) Q A := by
  unfold aX7_pageCountOf
  rw [a5_partOf, brP, cl_nI (by omega), i_nI (by omega)]
  by_cases h : md v = true
  · have hn := E.2.2.1 v h
    rw [if_pos ⟨by omega, h⟩]
    obtain ⟨rc, wd, lr, r1, r2, r3⟩ := E.2.1 v hn h
    obtain ⟨a1, a2, a3, a4, a5, a6, a7⟩ := E.1
    rw [a1, a2]
    refine a1_arr (by omega) (by omega) r1 a5 a6 a7 (fun B g hB hk => ?_)
    have eg : g = np v := isNp_un hB.1 r3
    subst eg
    rw [hB.2.1]
    exact hq B (keep5 hk) (fun _ => ⟨rc, wd, lr, r2, hB⟩)
  · rw [if_neg (fun z => h z.2)]
    have := E.2.2.2.1 v (by simpa using h)
    have hq' := hq A Keep.rf (fun z => absurd z h)
    rw [this] at hq'
    exact hq'
theorem a8_pc (E : EnvB nv md W H np A) {v : Nat} (hv : v < 6) (R : RwM v wd lr rc A) (hn : pNp wd lr W H rc (np v)) {Q : q_St → Prop} (hq : ∀ B : q_St, Keep A B → PgM wd lr W H rc (np v) B → Q B) : aX8_layPages nv md (nI v) Q A := by
  obtain ⟨a1, a2, a3, a4, a5, a6, a7⟩ := E.1
  refine a8_layP (by omega) R a3 a4 a5 a6 a7 (fun B g hB hk => ?_)
  have eg : g = np v := isNp_un hB.1 hn
  subst eg
  exact hq B (keepM hk) hB
theorem a7_layL (Q : Int32 → q_St → Prop) (hq : ∀ B : q_St, Keep A B → Q (nI (sm np 6)) B) : ∀ (f v : Nat) (B : q_St), v ≤ 6 → 7 ≤ f + v → EnvB nv md W H np B → Keep A B → alX7_lay_b39 nv md Q f (nI (sm np v)) (nI v) B := by
  intro f
  induction f with
  | zero => intro v B h1 h2; exact absurd h2 (by omega)
  | succ f ih =>
    intro v B h1 h2 E K
    show aX7_lay_b39 nv md Q (alX7_lay_b39 nv md Q f) (nI (sm np v)) (nI v) B
    unfold aX7_lay_b39
    rw [show (6 : Int32) = nI 6 from rfl, le_n (by omega) (by omega)]
    by_cases h : 6 ≤ v
    · rw [brT h, show v = 6 by omega]; exact hq B K
    · rw [brF h]
      refine a7_pc E (by omega) (fun B2 K2 _ => ?_)
      rw [nI_add, e1, nI_add]
      exact ih (v + 1) B2 (by omega) (by omega) (E.keep K2) (K.tr K2)
theorem a8_layL (Q : Int32 → q_St → Prop) (hq : ∀ B : q_St, Keep A B → Q (nI (sm np nv)) B) : ∀ (f v : Nat) (B : q_St), v ≤ nv → nv + 1 ≤ f + v → EnvB nv md W H np B → Keep A B → alX8_lay_b39 nv md Q f (nI (sm np v)) (nI v) B := by
  intro f
  induction f with
  | zero => intro v B h1 h2; exact absurd h2 (by omega)
  | succ f ih =>
    intro v B h1 h2 E K
    have hn := E.2.2.2.2.1
    show aX8_lay_b39 nv md Q (alX8_lay_b39 nv md Q f) (nI (sm np v)) (nI v) B
    unfold aX8_lay_b39 aX8_lay_b71
    rw [E.2.2.2.2.2.1, le_n (by omega) (by omega)]
    by_cases h : nv ≤ v
    · rw [brT h, show v = nv by omega]; exact hq B K
    · rw [brF h, in_n (by omega) (by omega), cl_nI (by omega), E.2.2.2.2.2.2 v (by omega), brD', e1, nI_add]
      have es : sm np (v + 1) = sm np v + np v := rfl
      by_cases g : md v = true
      · rw [if_pos g]
        obtain ⟨rc, wd, lr, r1, r2, r3⟩ := E.2.1 v (by omega) g
        refine a8_pc E (by omega) r2 r3 (fun B2 K2 hP => ?_)
        rw [hP.2.1, nI_add, ← es]
        exact ih (v + 1) B2 (by omega) (by omega) (E.keep K2) (K.tr K2)
      · rw [if_neg g]
        rw [E.2.2.2.1 v (by simpa using g)] at es
        have es2 : sm np v = sm np (v + 1) := es.symm
        rw [es2]
        exact ih (v + 1) B (by omega) (by omega) E K
theorem a7_lnL {n : Nat} (hn6 : n ≤ 6) (Q : Int32 → q_St → Prop) (hq : ∀ B : q_St, Keep A B → Q (nI (bkN np n)) B) : ∀ (f v : Nat) (B : q_St), v ≤ n → n + 1 ≤ f + v → EnvB nv md W H np B → Keep A B → alX7_lastNumberAhead_b4 nv md Q f (nI n) (nI (bkN np v)) (nI v) B := by
  intro f
  induction f with
  | zero => intro v B h1 h2; exact absurd h2 (by omega)
  | succ f ih =>
    intro v B h1 h2 E K
    show aX7_lastNumberAhead_b4 nv md Q (alX7_lastNumberAhead_b4 nv md Q f) (nI n) (nI (bkN np v)) (nI v) B
    unfold aX7_lastNumberAhead_b4 aX7_lastNumberAhead_b37 aX7_nextOdd
    rw [show (6 : Int32) = nI 6 from rfl, le_n (by omega) (by omega), le_n (by omega) (by omega)]
    by_cases h : n ≤ v
    · rw [brT h, show v = n by omega]; exact hq B K
    · rw [brF h, brF (by omega)]
      have hb := bkN_le (np := np) v (fun u _ => E.np_le u)
      have hle := E.np_le v
      refine a7_pc E (by omega) (fun B2 K2 _ => ?_)
      have es : bkN np (v + 1) = if np v = 0 then bkN np v else bkN np v + 1 + bkN np v % 2 + np v - 1 := rfl
      have hz : (nI (np v) ≤ 0) = (np v = 0) := by rw [e0, le_n (by omega) (by omega), eq_iff_iff]; omega
      rw [hz, n_and _ (by omega)]
      simp only []
      rw [nI_add]
      by_cases g : np v = 0
      · rw [brT g]
        rw [if_pos g] at es
        rw [← es, e1, nI_add]
        exact ih (v + 1) B2 (by omega) (by omega) (E.keep K2) (K.tr K2)
      · rw [brF g]
        rw [if_neg g] at es
        rw [e1, pk_sub (by omega), ← es, nI_add]
        exact ih (v + 1) B2 (by omega) (by omega) (E.keep K2) (K.tr K2)
theorem a8_odd {a : Nat} (ha : a < 399) {Q : Int32 → q_St → Prop} : aX8_odd nv md (nI a + 1) Q A = Q (nI (a + 1 + a % 2)) A := by
  unfold aX8_odd
  rw [e1, nI_add, n_mod2 _ (by omega), e0, eq_n (by omega) (by omega), nI_add]
  by_cases h : (a + 1) % 2 = 0
  · rw [brT' h, show a % 2 = 1 by omega]
  · rw [brF' h, show a % 2 = 0 by omega]
theorem a8_lnL {n : Nat} (hn6 : n ≤ 6) (Q : Int32 → q_St → Prop) (hq : ∀ B : q_St, Keep A B → Q (nI (bkN np n)) B) : ∀ (f v : Nat) (B : q_St), v ≤ n → n + 1 ≤ f + v → EnvB nv md W H np B → Keep A B → alX8_lastNumber_b4 nv md Q f (nI n) (nI (bkN np v)) (nI v) B := by
  intro f
  induction f with
  | zero => intro v B h1 h2; exact absurd h2 (by omega)
  | succ f ih =>
    intro v B h1 h2 E K
    show aX8_lastNumber_b4 nv md Q (alX8_lastNumber_b4 nv md Q f) (nI n) (nI (bkN np v)) (nI v) B
    unfold aX8_lastNumber_b4 aX8_lastNumber_b47 aX8_lastNumber_b48
    rw [le_n (by omega) (by omega)]
    by_cases h : n ≤ v
    · rw [brT h, show v = n by omega]; exact hq B K
    · rw [brF h, in_n (by omega) (by omega), cl_nI (by omega), E.2.2.2.2.2.2 v (by omega), brD']
      have hb := bkN_le (np := np) v (fun u _ => E.np_le u)
      have hle := E.np_le v
      have es : bkN np (v + 1) = if np v = 0 then bkN np v else bkN np v + 1 + bkN np v % 2 + np v - 1 := rfl
      by_cases g : md v = true
      · rw [if_pos g]
        obtain ⟨rc, wd, lr, r1, r2, r3⟩ := E.2.1 v (E.2.2.1 v g) g
        refine a8_pc E (by omega) r2 r3 (fun B2 K2 hP => ?_)
        have hz : (nI (np v) ≤ 0) = (np v = 0) := by rw [e0, le_n (by omega) (by omega), eq_iff_iff]; omega
        rw [hP.2.1, hz, a8_odd (by omega), hP.2.1, nI_add]
        by_cases g : np v = 0
        · rw [brT g]
          rw [if_pos g] at es
          rw [← es, e1, nI_add]
          exact ih (v + 1) B2 (by omega) (by omega) (E.keep K2) (K.tr K2)
        · rw [brF g]
          rw [if_neg g] at es
          rw [e1, pk_sub (by omega), ← es, nI_add]
          exact ih (v + 1) B2 (by omega) (by omega) (E.keep K2) (K.tr K2)
      · rw [if_neg g]
        rw [if_pos (E.2.2.2.1 v (by simpa using g))] at es
        rw [← es, e1, nI_add]
        exact ih (v + 1) B (by omega) (by omega) E K
end CBOOK
