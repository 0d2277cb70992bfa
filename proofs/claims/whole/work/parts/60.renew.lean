section CRN2
variable {nv nb : Nat} {md : Nat → Bool} {D A A' : q_St}
theorem SV.keepL (S : SV nv nb D A) (h : ∀ q m, q < 64 → ¬ (5 ≤ q ∧ q ≤ 10) → A' q m = A q m) (h2 : ∀ q m, 132 ≤ q → q ≤ 140 → A' q m = A q m) (h3 : ∀ m, m ≤ 11 → A' 128 m = A 128 m) : SV nv nb D A' := by
  obtain ⟨⟨d1, d2, d3, d4, d5, d6, d7⟩, a, b, c, d, e, f, g, i, j⟩ := S
  refine ⟨⟨d1, d2, by rw [h3 _ (by omega)]; exact d3, by rw [h _ _ (by omega) (by omega)]; exact d4, by rw [h3 _ (by omega)]; exact d5, by rw [h _ _ (by omega) (by omega)]; exact d6, by rw [h3 _ (by omega)]; exact d7⟩, fun q h4 h5 => ?_, fun v x hv hx => ?_, fun v x k w hv hx hk hw => ?_, d, e, f, fun x k hx hk => ?_, fun v hv => ?_, j⟩
  · rw [← a q h4 h5]; exact funext fun m => h2 q m h4 h5
  · rw [h _ _ (by omega) (by omega)]; exact b v x hv hx
  · rw [h _ _ (by omega) (by omega)]; exact c v x k w hv hx hk hw
  · rw [h _ _ (by omega) (by omega)]; exact g x k hx hk
  · rw [h _ _ (by omega) (by omega), h _ _ (by omega) (by omega), h _ _ (by omega) (by omega)]; exact i v hv
def wdD (nb : Nat) (D : q_St) (v i : Nat) : Nat := wdS D v (rwS nb D v i).1 (rwS nb D v i).2.1 (rwS nb D v i).2.2.2
def lrD (nb : Nat) (D : q_St) (v i : Nat) : Bool := decide (nI (rwS nb D v i).1 = 1 ∧ 2 ≤ (nI (rwS nb D v i).2.2.1).toInt)
theorem wd_le {v rc i : Nat} (S : SV nv nb D D) (hv : v < nv) (hrc : rcS nb D v rc) (hi : i < rc) : wdD nb D v i ≤ 20 := by
  have h6 := S.1.1
  have h40 := S.1.2.1
  have hle := rcS_le hrc
  have hsrc : (rwS nb D v i).1 ≤ 3 ∧ (rwS nb D v i).2.1 < 40 ∧ ∀ u, (rwS nb D v i).2.2.2 = some u → u < 6 := by
    unfold rwS
    by_cases z : emp D v nb = true
    · rw [if_pos z]
      have hr := hrc.1 z
      refine ⟨by show 3 ≤ 3; omega, by show 0 < 40; omega, fun u hu => absurd hu (by simp)⟩
    · rw [if_neg z]
      have hr := (hrc.2 (by simpa using z)).2 i hi
      refine ⟨(rowS_len (D := D) (v := v) hr).2.2, by show rbS nb D v i < 40; omega, fun u hu => by have := rowS_src S hv hr hu; omega⟩
  have n8 := nS8 S (f := (rwS nb D v i).2.1) hsrc.2.1 hsrc.2.2
  have hul := ulS_le (fun q => wnO D v (rwS nb D v i).2.1 (rwS nb D v i).2.2.2 q 0) (nS D (rwS nb D v i).2.1 (rwS nb D v i).2.2.2)
  unfold wdD wdS baS
  split <;> split <;> (try split) <;> (try split) <;> omega
theorem rwC_of {v j rc : Nat} (S : SV nv nb D D) (hv : v < nv) (hrc : rcS nb D v rc) (hC : PrC nb D v j rc A) : RwC j (wdD nb D v) (lrD nb D v) rc A := by
  have h40 := S.1.2.1
  have hle := rcS_le hrc
  refine ⟨by omega, fun i hi => wd_le S hv hrc hi, hC.1, fun i hi => ?_, fun i hi => ?_⟩
  · obtain ⟨c0, c1, c2, c3, -⟩ := hC.2 i hi
    exact c3
  · obtain ⟨c0, c1, c2, c3, -⟩ := hC.2 i hi
    have c0' : A (j + 1) (i * 7) = nI (rwS nb D v i).1 := c0
    unfold lrD
    rw [c0', c2]
theorem rwM_of {v rc : Nat} (S : SV nv nb D D) (hv : v < nv) (hrc : rcS nb D v rc) (hM : PrM nb D v rc A) : RwM 6 (wdD nb D v) (lrD nb D v) rc A := by
  have h40 := S.1.2.1
  have hle := rcS_le hrc
  refine ⟨by omega, fun i hi => wd_le S hv hrc hi, hM.1, fun i hi => ?_, fun i hi => ?_⟩
  · obtain ⟨c0, c1, c2, c3, -⟩ := hM.2 i hi
    exact c3
  · obtain ⟨c0, c1, c2, c3, -⟩ := hM.2 i hi
    have c0' : A 144 (40 * 6 + i) = nI (rwS nb D v i).1 := c0
    have c2' : A 146 (40 * 6 + i) = nI (rwS nb D v i).2.2.1 := c2
    unfold lrD
    rw [c0', c2']
theorem RwC.congr {j rc : Nat} {wd : Nat → Nat} {lr : Nat → Bool} (h : RwC j wd lr rc A) (hA : ∀ q m, j ≤ q → q ≤ j + 1 → A' q m = A q m) : RwC j wd lr rc A' := by
  obtain ⟨a, b, c, d, e⟩ := h
  exact ⟨a, b, by rw [hA _ _ (by omega) (by omega)]; exact c, fun i hi => by rw [hA _ _ (by omega) (by omega)]; exact d i hi, fun i hi => by rw [hA _ _ (by omega) (by omega), hA _ _ (by omega) (by omega)]; exact e i hi⟩
theorem RwM.congr {p rc : Nat} {wd : Nat → Nat} {lr : Nat → Bool} (h : RwM p wd lr rc A) (h0 : A' 143 p = A 143 p) (hA : ∀ q i, 144 ≤ q → q ≤ 147 → i < 40 → A' q (40 * p + i) = A q (40 * p + i)) : RwM p wd lr rc A' := by
  obtain ⟨a, b, c, d, e⟩ := h
  exact ⟨a, b, by rw [h0]; exact c, fun i hi => by rw [hA _ _ (by omega) (by omega) (by omega)]; exact d i hi, fun i hi => by rw [hA _ _ (by omega) (by omega) (by omega), hA _ _ (by omega) (by omega) (by omega)]; exact e i hi⟩
/-- PAGES told by class and model, set beside each other -/
theorem pg_eq {E F : q_St} {p a0 a1 a2 b0 b1 b2 : Nat} {a3 b3 : Bool} (x0 : E 7 (p * 4) = nI a0) (x1 : E 7 (p * 4 + 1) = nI a1) (x2 : E 7 (p * 4 + 2) = nI a2) (x3 : E 7 (p * 4 + 3) = bI a3) (y0 : E 10 (p * 4) = nI b0) (y1 : E 10 (p * 4 + 1) = nI b1) (y2 : E 10 (p * 4 + 2) = nI b2) (y3 : E 10 (p * 4 + 3) = bI b3) (u0 : F 162 p = nI a0) (u1 : F 163 p = nI a1) (u2 : F 164 p = nI a2) (u3 : F 165 p = bI a3) (v0 : F 157 p = nI b0) (v1 : F 158 p = nI b1) (v2 : F 159 p = nI b2) (v3 : F 160 p = bI b3) : alB (fun w => decide (E 7 (p * 4 + w) = E 10 (p * 4 + w))) 4 = pg4 F p := by
  rw [Bool.eq_iff_iff, alB_iff]
  unfold pg4
  rw [decide_eq_true_eq, u0, u1, u2, u3, v0, v1, v2, v3]
  constructor
  · intro h
    have h0 := of_decide_eq_true (h 0 (by omega))
    have h1 := of_decide_eq_true (h 1 (by omega))
    have h2 := of_decide_eq_true (h 2 (by omega))
    have h3 := of_decide_eq_true (h 3 (by omega))
    refine ⟨?_, ?_, ?_, ?_⟩
    · rw [← x0, ← y0]; exact h0
    · rw [← x1, ← y1]; exact h1
    · rw [← x2, ← y2]; exact h2
    · rw [← x3, ← y3]; exact h3
  · rintro ⟨h0, h1, h2, h3⟩ w hw
    refine decide_eq_true ?_
    have hw4 : w = 0 ∨ w = 1 ∨ w = 2 ∨ w = 3 := by omega
    rcases hw4 with e | e | e | e
    · subst e; show E 7 (p * 4) = E 10 (p * 4); rw [x0, y0]; exact h0
    · subst e; rw [x1, y1]; exact h1
    · subst e; rw [x2, y2]; exact h2
    · subst e; rw [x3, y3]; exact h3
theorem alB_eq4 {E : q_St} {p a0 a1 b0 b1 : Nat} (l0 : a0 ≤ 40) (l1 : a1 ≤ 40) (k0 : b0 ≤ 40) (k1 : b1 ≤ 40) (x0 : E 7 (p * 4) = nI a0) (x1 : E 7 (p * 4 + 1) = nI a1) (y0 : E 10 (p * 4) = nI b0) (y1 : E 10 (p * 4 + 1) = nI b1) (h : alB (fun w => decide (E 7 (p * 4 + w) = E 10 (p * 4 + w))) 4 = true) : a0 = b0 ∧ a1 = b1 := by
  rw [alB_iff] at h
  have h0 := of_decide_eq_true (h 0 (by omega))
  have h1 := of_decide_eq_true (h 1 (by omega))
  have h0' : E 7 (p * 4) = E 10 (p * 4) := h0
  rw [x0, y0] at h0'
  rw [x1, y1] at h1
  exact ⟨(nI_eq (by omega) (by omega)).mp h0', (nI_eq (by omega) (by omega)).mp h1⟩
theorem op_renew {v : Nat} (C : Corr nv md nb A) (hv : v < nv) (hm : md v = true) : aX0_make nv md (16 + 4 * v) 94 (fun B => aX7_pagesAlike nv md (64 + 5 * v) 94 (fun r B1 => aX8_renew nv md (nI v) (fun r2 B2 => r = r2 ∧ Corr nv md nb B2) (swp v B1)) B) A := by
  have h6 := C.1.1
  have S := sv_of C
  have emd : mdv md v = md := funext fun u => by
    unfold mdv
    by_cases e : u = v
    · rw [if_pos e, e, hm]
    · rw [if_neg e]
  obtain ⟨g04, g05, g1', g2', g3', g4'⟩ := C.2.2.2.2.2.1
  obtain ⟨W, hW', eW⟩ := i_of (x := A 128 22) (N := 61) (by omega) (by omega) (by omega)
  obtain ⟨H, hH', eH⟩ := i_of (x := A 128 23) (N := 13) (by omega) (by omega) (by omega)
  rw [eW] at g04
  rw [eH] at g05
  have hW : W ≤ 60 := by omega
  have hH2 : H ≤ 12 := by omega
  have hH : 1 ≤ H := by rw [eH, i_nI (by omega)] at g3'; omega
  refine c_make S hv (by omega) (by omega) (fun B rc hrc hP hB => ?_)
  have K1 := keep94 hB
  have C1 := C.keep K1
  have l2 : rc ≤ 40 := Nat.le_trans (rcS_le hrc) S.1.2.1
  obtain ⟨rc1, wd1, lr1, RC1, RM1⟩ := rw_of ((C1.2.2.2.2.2.2 v (by omega)).1 hm).2
  have l1 := RC1.1
  have RC2 : RwC 94 (wdD nb A v) (lrD nb A v) rc B := rwC_of S hv hrc hP
  unfold aX7_pagesAlike
  have b4 : B 0 4 = nI W := by rw [hB _ _ (by omega)]; exact g04
  have b5 : B 0 5 = nI H := by rw [hB _ _ (by omega)]; exact g05
  rw [b4, b5]
  refine a1_arr (by omega) (by omega) RC1 hW hH hH2 (fun E1 g1 hG1 hE1 => ?_)
  have d4 : E1 0 4 = nI W := by rw [hE1 _ _ (by omega) (by omega) (by omega)]; exact b4
  have d5 : E1 0 5 = nI H := by rw [hE1 _ _ (by omega) (by omega) (by omega)]; exact b5
  rw [d4, d5]
  refine a1_arr (by omega) (by omega) (RC2.congr (fun q m a b => hE1 q m (by omega) (by omega) (by omega))) hW hH hH2 (fun E g2 hG2 hE2 => ?_)
  have hE : ∀ q m, ¬ (5 ≤ q ∧ q ≤ 10) → E q m = B q m := fun q m a => by rw [hE2 q m (by omega) (by omega) (by omega), hE1 q m (by omega) (by omega) (by omega)]
  obtain ⟨n1, a53, f1⟩ := hG1
  obtain ⟨n2, a83, f2⟩ := hG2
  have a53' : E 5 3 = nI g1 := by rw [hE2 _ _ (by omega) (by omega) (by omega)]; exact a53
  have f1' : ∀ r, r < g1 → E 7 (r * 4) = nI (p0 wd1 lr1 W H rc1 r) ∧ E 7 (r * 4 + 1) = nI (p0 wd1 lr1 W H rc1 (r + 1) - p0 wd1 lr1 W H rc1 r) ∧ E 7 (r * 4 + 2) = nI (p2 wd1 lr1 W H rc1 r) ∧ E 7 (r * 4 + 3) = bI (p3 wd1 lr1 W H rc1 r) := fun r hr => by
    rw [hE2 7 _ (by omega) (by omega) (by omega), hE2 7 _ (by omega) (by omega) (by omega), hE2 7 _ (by omega) (by omega) (by omega), hE2 7 _ (by omega) (by omega) (by omega)]
    exact f1 r hr
  have lg1 : g1 ≤ 40 := Nat.le_trans (pNp_le RC1.2.1 hW hH n1) l1
  have lg2 : g2 ≤ 40 := Nat.le_trans (pNp_le RC2.2.1 hW hH n2) l2
  have KE : Keep B E := fun q m hs => by
    simp [scr] at hs
    exact hE q m (by omega)
  have CE := C1.keep KE
  have SE : SV nv nb A E := S.keepL (fun q m a b => by rw [hE q m (by omega), hB q m (by omega)]) (fun q m a b => by rw [hE q m (by omega), hB q m (by omega)]) (fun m a => by rw [hE _ m (by omega), hB _ m (by omega)])
  have hPE : PrC nb A v 94 rc E := hP.congr (fun q m a b => hE q m (by omega))
  obtain ⟨m1, rcq, lq, aq1, aq2, aq3⟩ := (CE.2.2.2.2.2.2 v (by omega)).1 hm
  have eq1 : rcq = rc1 := by
    have := RC1.2.2.1
    rw [← hE _ _ (by omega), aq1] at this
    exact (nI_eq (by omega) (by omega)).mp this
  subst eq1
  have hR := c_like (nv := nv) (md := md) (A := E) (v := v) (j := 94) (rc1 := rcq) (rc2 := rc) (by omega) aq1 hPE.1 (fun i hi => by
    obtain ⟨-, -, -, -, -, -, -, b7, -, n, q1, q2, -⟩ := aq3 i hi
    exact ⟨n, q1, b7.trans q2⟩) (row_n S hv hrc hPE) l1 l2
  have fb : ∀ p, p < g1 → p < g2 → alB (fun w => decide (E 7 (p * 4 + w) = E 10 (p * 4 + w))) 4 = true → p0 wd1 lr1 W H rcq p = p0 (wdD nb A v) (lrD nb A v) W H rc p ∧ p0 wd1 lr1 W H rcq (p + 1) - p0 wd1 lr1 W H rcq p = p0 (wdD nb A v) (lrD nb A v) W H rc (p + 1) - p0 (wdD nb A v) (lrD nb A v) W H rc p := fun p h1 h2 h => by
    have y1 := p0_le RC1.2.1 hW hH n1 h1
    have y2 := p0_le RC2.2.1 hW hH n2 h2
    exact alB_eq4 (by omega) (by omega) (by omega) (by omega) (f1' p h1).1 (f1' p h1).2.1 (f2 p h2).1 (f2 p h2).2.1 h
  have fc : ∀ p, p < g1 → p < g2 → alB (fun w => decide (E 7 (p * 4 + w) = E 10 (p * 4 + w))) 4 = true → p0 wd1 lr1 W H rcq p + (p0 wd1 lr1 W H rcq (p + 1) - p0 wd1 lr1 W H rcq p) ≤ rcq ∧ p0 wd1 lr1 W H rcq p + (p0 wd1 lr1 W H rcq (p + 1) - p0 wd1 lr1 W H rcq p) ≤ rc := fun p h1 h2 h => by
    have y1 := p0_le RC1.2.1 hW hH n1 h1
    have y2 := p0_le RC2.2.1 hW hH n2 h2
    have y3 := fb p h1 h2 h
    omega
  have hPG : ∀ p, p < g1 → p < g2 → ∀ Q : Int32 → q_St → Prop, aX7_isPageAlike nv md (64 + 5 * v) 94 (nI p) Q E = Q (bI (alB (fun w => decide (E 7 (p * 4 + w) = E 10 (p * 4 + w))) 4 && alB (fun k => rowP E (64 + 5 * v) 94 (p0 wd1 lr1 W H rcq p + k)) (p0 wd1 lr1 W H rcq (p + 1) - p0 wd1 lr1 W H rcq p))) E := fun p h1 h2 Q => by
    unfold aX7_isPageAlike
    exact c_pgFig l1 hR a53' a83 lg1 lg2 h1 h2 (f1' p h1).1 (f1' p h1).2.1 (fc p h1 h2) q_fuel 0 (by omega) (by unfold q_fuel; omega) (fun q hq => absurd hq (Nat.not_lt_zero q))
  have key : ∀ M, M ≤ g1 → M ≤ g2 → (M = g1 ∨ M = g2) → alX7_pagesAlike_b53 nv md (fun r B1 => aX8_renew nv md (nI v) (fun r2 B2 => r = r2 ∧ Corr nv md nb B2) (swp v B1)) q_fuel (64 + 5 * v) 94 (nI M) (0 : Int32) E := by
    intro M k1 k2 k3
    refine (c_pgs (nv := nv) (md := md) (PG := fun p => alB (fun w => decide (E 7 (p * 4 + w) = E 10 (p * 4 + w))) 4 && alB (fun k => rowP E (64 + 5 * v) 94 (p0 wd1 lr1 W H rcq p + k)) (p0 wd1 lr1 W H rcq (p + 1) - p0 wd1 lr1 W H rcq p)) (by omega) (fun p hp Q => hPG p (by omega) (by omega) Q) M q_fuel 0 (by omega) (by unfold q_fuel; omega)).mpr ?_
    have xo : ∀ q m, ¬ (64 + 5 * v ≤ q ∧ q ≤ 64 + 5 * v + 4) → ¬ (94 ≤ q ∧ q ≤ 98) → swp v E q m = E q m := fun q m a b => by rw [swp_o a b]
    have x0 : swp v E 128 0 = nI nv := by rw [xo _ _ (by omega) (by omega)]; exact SE.1.2.2.1
    unfold aX8_renew
    rw [m_isPart (by omega) x0 (fun u hu => by
      rw [xo _ _ (by omega) (by omega)]
      cases e : md u with
      | true => exact ((CE.2.2.2.2.2.2 u hu).1 e).1
      | false => exact (CE.2.2.2.2.2.2 u hu).2 e), brB, if_pos ⟨⟨by rw [i_nI (by omega)]; omega, by rw [i_nI (by omega)]; omega⟩, by rw [cl_nI (by omega)]; exact hm⟩]
    have x22 : swp v E 128 22 = nI W := by rw [xo _ _ (by omega) (by omega), hE _ _ (by omega), hB _ _ (by omega)]; exact eW
    have x23 : swp v E 128 23 = nI H := by rw [xo _ _ (by omega) (by omega), hE _ _ (by omega), hB _ _ (by omega)]; exact eH
    refine a8_layP (by omega) (RM1.congr (A' := swp v E) (by rw [xo _ _ (by omega) (by omega), hE _ _ (by omega)]) (fun q i a b c => by rw [xo _ _ (by omega) (by omega), hE _ _ (by omega)])) x22 x23 hW hH hH2 (fun F1 g1q hF1 kF1 => ?_)
    obtain ⟨n1q, c26, fF1⟩ := hF1
    have e1q := isNp_un n1q n1
    subst e1q
    show alX8_renew_b26 nv md _ q_fuel (nI v) (nI 0) (q_u F1 128 31 (F1 128 26))
    rw [c26]
    refine m_cpL (A0 := q_u F1 128 31 (nI g1q)) lg1 (by rw [qs (by omega)]; exact c26) (fun r hr => ⟨_, by rw [qn (by omega)]; exact (fF1 r hr).2.2.2⟩) (fun F2 hF2 => ?_) q_fuel 0 _ (by omega) (by unfold q_fuel; omega) (fun q m => by rw [if_neg (by omega)])
    have k2F : ∀ q m, ¬ (64 + 5 * v ≤ q ∧ q ≤ 64 + 5 * v + 4) → ¬ (94 ≤ q ∧ q ≤ 98) → q < 152 → (q ≠ 128 ∨ (m ≠ 25 ∧ m ≠ 26 ∧ m ≠ 31)) → F2 q m = E q m := fun q m a b c d => by
      rw [hF2, if_neg (by omega), qa, if_neg (by omega), kF1 q m (by omega) (by omega) (by omega), xo q m a b]
    have SF2 : SV nv nb A F2 := SE.keepL (fun q m a b => k2F q m (by omega) (by omega) (by omega) (by omega)) (fun q m a b => k2F q m (by omega) (by omega) (by omega) (by omega)) (fun m a => k2F _ m (by omega) (by omega) (by omega) (by omega))
    refine m_make SF2 hv (fun F3 rc3 hrc3 hM hK => ?_)
    have er := rcS_un hrc3 hrc
    subst er
    have r22 : F3 128 22 = nI W := by rw [hK _ _ (by omega) (by omega) (by omega), k2F _ _ (by omega) (by omega) (by omega) (by omega), ← xo _ _ (by omega) (by omega)]; exact x22
    have r23 : F3 128 23 = nI H := by rw [hK _ _ (by omega) (by omega) (by omega), k2F _ _ (by omega) (by omega) (by omega) (by omega), ← xo _ _ (by omega) (by omega)]; exact x23
    refine a8_layP (p := 6) (by omega) (rwM_of S hv hrc3 hM) r22 r23 hW hH hH2 (fun F4 g2q hF4 kF4 => ?_)
    obtain ⟨n2q, c26', fF4⟩ := hF4
    have e2q := isNp_un n2q n2
    subst e2q
    have k4 : ∀ q m, q < 154 → (q ≠ 128 ∨ (m ≠ 25 ∧ m ≠ 26)) → F4 q m = F3 q m := fun q m a b => kF4 q m (by omega) (by omega) b
    have hM4 : PrM nb A v rc3 F4 := by
      refine ⟨by rw [k4 _ _ (by omega) (by omega)]; exact hM.1, fun i hi => ?_⟩
      have := hM.2 i hi
      unfold RMs RM at this ⊢
      rw [k4 144 _ (by omega) (by omega), k4 145 _ (by omega) (by omega), k4 146 _ (by omega) (by omega), k4 147 _ (by omega) (by omega), k4 148 _ (by omega) (by omega), k4 149 _ (by omega) (by omega), k4 150 _ (by omega) (by omega)]
      obtain ⟨t0, t1, t2, t3, t4, t5, t6, t7⟩ := this
      exact ⟨t0, t1, t2, t3, t4, t5, t6, fun k w a b => by rw [k4 151 _ (by omega) (by omega)]; exact t7 k w a b⟩
    have k4F : ∀ q m, q < 142 → (q ≠ 128 ∨ (m ≠ 25 ∧ m ≠ 26 ∧ m ≠ 31)) → F4 q m = swp v E q m := fun q m a b => by
      rw [k4 q m (by omega) (by omega), hK q m (by omega) (by omega) (by omega), hF2, if_neg (by omega), qa, if_neg (by omega), kF1 q m (by omega) (by omega) (by omega)]
    have Yd : ∃ Y : q_St, (∀ q, q < 99 → Y q = E q) ∧ (∀ q, 99 ≤ q → Y q = F4 q) := ⟨fun q => if q < 99 then E q else F4 q, fun q h => if_pos h, fun q h => if_neg (by omega)⟩
    obtain ⟨Y, hY1, hY2⟩ := Yd
    have Y1 : ∀ i, i < rcq → rRel Y (64 + 5 * v) v i := fun i hi => rRel_congr (A := E) (fun d hd => hY1 _ (by omega)) (fun q a b => by
      rw [hY2 _ (by omega), k4 _ _ (by omega) (by omega), hK _ _ (by omega) (by omega) (by omega), k2F _ _ (by omega) (by omega) (by omega) (by omega)]) (fun k w a b => by
      rw [hY2 _ (by omega), k4 _ _ (by omega) (by omega), hK _ _ (by omega) (by omega) (by omega), k2F _ _ (by omega) (by omega) (by omega) (by omega)]) (aq3 i hi)
    have hPY : PrC nb A v 94 rc3 Y := hPE.congr (fun q m a b => by rw [hY1 q (by omega)])
    have hMY : PrM nb A v rc3 Y := by
      refine ⟨by rw [hY2 _ (by omega)]; exact hM4.1, fun i hi => ?_⟩
      have := hM4.2 i hi
      unfold RMs RM at this ⊢
      rw [hY2 144 (by omega), hY2 145 (by omega), hY2 146 (by omega), hY2 147 (by omega), hY2 148 (by omega), hY2 149 (by omega), hY2 150 (by omega), hY2 151 (by omega)]
      exact this
    have Y2 : ∀ i, i < rc3 → rRel Y 94 6 i := by
      obtain ⟨rc4, l4, t1, t2, t3⟩ := pr_rel S hv hrc3 hPY hMY
      have e24 : rc3 = rc4 := by
        rw [hPY.1] at t1
        exact (nI_eq (by omega) (by omega)).mp t1
      subst e24
      exact t3
    have hRm : ∀ i, i < rcq → i < rc3 → ∀ Q : Int32 → q_St → Prop, aX8_isLike nv md (nI (40 * v + i)) (nI (240 + i)) Q F4 = Q (bI (rowP E (64 + 5 * v) 94 i)) F4 := by
      intro i i1 i2 Q
      have q1 := Y1 i i1
      have q2 := Y2 i i2
      obtain ⟨-, -, -, -, -, -, -, -, -, n, t1, t2, -⟩ := id q1
      have er : rowP E (64 + 5 * v) 94 i = rowP Y (64 + 5 * v) 94 i := by
        unfold rowP
        rw [hY1 (64 + 5 * v + 1) (by omega), hY1 (94 + 1) (by omega), hY1 (64 + 5 * v + 3) (by omega), hY1 (94 + 3) (by omega), hY1 (64 + 5 * v + 4) (by omega), hY1 (94 + 4) (by omega)]
      rw [m_like (n := n) (by omega) (by omega) t1 (by rw [← hY2 150 (by omega)]; exact t2), er, rowP_like q1 q2 t1 t2, lkM_congr (A := F4) (B := Y) (fun q hq => hY2 q (by omega))]
    have u4 : ∀ p, p < g1q → F4 162 p = nI (p0 wd1 lr1 W H rcq p) ∧ F4 163 p = nI (p0 wd1 lr1 W H rcq (p + 1) - p0 wd1 lr1 W H rcq p) ∧ F4 164 p = nI (p2 wd1 lr1 W H rcq p) ∧ F4 165 p = bI (p3 wd1 lr1 W H rcq p) := fun p hp => by
      have k5 : ∀ q, 162 ≤ q → q ≤ 165 → F4 q p = F1 (q - 5) p := fun q a b => by
        rw [kF4 q p (by omega) (by omega) (by omega), hK q p (by omega) (by omega) (by omega), hF2, if_pos ⟨a, b, hp⟩, qa, if_neg (by omega)]
      rw [k5 162 (by omega) (by omega), k5 163 (by omega) (by omega), k5 164 (by omega) (by omega), k5 165 (by omega) (by omega)]
      exact fF1 p hp
    have eqp : ∀ p, p < g1q → p < g2q → alB (fun w => decide (E 7 (p * 4 + w) = E 10 (p * 4 + w))) 4 = pg4 F4 p := fun p h1 h2 => pg_eq (f1' p h1).1 (f1' p h1).2.1 (f1' p h1).2.2.1 (f1' p h1).2.2.2 (f2 p h2).1 (f2 p h2).2.1 (f2 p h2).2.2.1 (f2 p h2).2.2.2 (u4 p h1).1 (u4 p h1).2.1 (u4 p h1).2.2.1 (u4 p h1).2.2.2 (fF4 p h2).1 (fF4 p h2).2.1 (fF4 p h2).2.2.1 (fF4 p h2).2.2.2
    have c31 : F4 128 31 = nI g1q := by
      rw [k4 _ _ (by omega) (by omega), hK _ _ (by omega) (by omega) (by omega), hF2, if_neg (by omega)]; exact qh
    refine (m_pgs (nv := nv) (md := md) (A := F4) (R := rowP E (64 + 5 * v) 94) (PG := fun p => alB (fun w => decide (E 7 (p * 4 + w) = E 10 (p * 4 + w))) 4 && alB (fun k => rowP E (64 + 5 * v) 94 (p0 wd1 lr1 W H rcq p + k)) (p0 wd1 lr1 W H rcq (p + 1) - p0 wd1 lr1 W H rcq p)) (rc1 := rcq) (rc2 := rc3) (fst := fun p => p0 (wdD nb A v) (lrD nb A v) W H rc3 p) (n := fun p => p0 (wdD nb A v) (lrD nb A v) W H rc3 (p + 1) - p0 (wdD nb A v) (lrD nb A v) W H rc3 p) (by omega) l1 (by omega) k1 k2 k3 lg1 lg2 c31 c26' hRm (fun p hp => (fF4 p (by omega)).1) (fun p hp => (fF4 p (by omega)).2.1) (fun p hp z => ?_) (fun p hp => ?_) M q_fuel 0 (by omega) (by unfold q_fuel; omega)).mpr ?_
    · rw [← eqp p (by omega) (by omega)] at z
      have y1 := fb p (by omega) (by omega) z
      have y2 := fc p (by omega) (by omega) z
      rw [y1.2, y1.1] at y2
      exact y2
    · show (alB (fun w => decide (E 7 (p * 4 + w) = E 10 (p * 4 + w))) 4 && alB (fun k => rowP E (64 + 5 * v) 94 (p0 wd1 lr1 W H rcq p + k)) (p0 wd1 lr1 W H rcq (p + 1) - p0 wd1 lr1 W H rcq p)) = _
      rw [← eqp p (by omega) (by omega)]
      cases z : alB (fun w => decide (E 7 (p * 4 + w) = E 10 (p * 4 + w))) 4 with
      | false => rw [Bool.false_and, Bool.false_and]
      | true =>
        have y1 := fb p (by omega) (by omega) z
        rw [y1.2, y1.1]
    · unfold aX8_renew_b260
      refine m_keep (by omega) l2 hM4.1 (fun G hG => ⟨rfl, ?_⟩)
      have hP4 : PrC nb A v (64 + 5 * v) rc3 F4 := hPE.mv (fun d hd => by
        refine Eq.trans (funext fun m => k4F _ m (by omega) (by omega)) ?_
        exact swp_v (by omega) hd)
      obtain ⟨rc4, l4, t1, t2, t3⟩ := pr_rel S hv hrc3 hP4 hM4
      have e24 : rc3 = rc4 := by
        rw [hP4.1] at t1
        exact (nI_eq (by omega) (by omega)).mp t1
      subst e24
      obtain ⟨hp, h142⟩ := kb_rel (by omega : v < 6) (by omega) (by omega) l2 t3 t1 hG
      have fin := C.part (by omega : v < 6) (fun q m hs a b c d e => ?_) hp h142
      · rw [emd] at fin; exact fin
      · have hs2 := hs
        simp [scr] at hs2
        rw [hG, if_neg (by omega), if_neg (by omega), qa, if_neg (by omega), qa, if_neg (by omega), k4 q m (by omega) (by omega), hK q m (by omega) (by omega) (by omega), k2F q m (by omega) (by omega) (by omega) (by omega), hE q m (by omega), hB q m (by omega)]
  show alX7_pagesAlike_b53 nv md _ q_fuel (64 + 5 * v) 94 (if E 8 3 < E 5 3 then E 8 3 else E 5 3) (0 : Int32) E
  rw [a53', a83]
  by_cases z : g2 < g1
  · rw [if_pos (by rw [lt_n (by omega) (by omega)]; exact z)]
    exact key g2 (by omega) (by omega) (Or.inr rfl)
  · rw [if_neg (by rw [lt_n (by omega) (by omega)]; exact z)]
    exact key g1 (by omega) (by omega) (Or.inl rfl)
end CRN2
