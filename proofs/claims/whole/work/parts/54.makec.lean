/-- sort, BARS, source of the ROW that begins with BAR b -/
def rowS (nb : Nat) (D : q_St) (v b : Nat) : Nat × Nat × Option Nat := if cnt D v b = 0 then (match cuS nb D v b with | some u => (2, 1, some u) | none => (1, reS nb D v nb (b + 1) - b, none)) else (0, 1, some v)
theorem rowS_0 {nb : Nat} {D : q_St} {v b : Nat} (h : ¬ cnt D v b = 0) : rowS nb D v b = (0, 1, some v) := by unfold rowS; rw [if_neg h]
theorem rowS_2 {nb : Nat} {D : q_St} {v b u : Nat} (h : cnt D v b = 0) (g : cuS nb D v b = some u) : rowS nb D v b = (2, 1, some u) := by unfold rowS; rw [if_pos h, g]
theorem rowS_1 {nb : Nat} {D : q_St} {v b : Nat} (h : cnt D v b = 0) (g : cuS nb D v b = none) : rowS nb D v b = (1, reS nb D v nb (b + 1) - b, none) := by unfold rowS; rw [if_pos h, g]
theorem rowS_len {nb : Nat} {D : q_St} {v b : Nat} (hb : b < nb) : 1 ≤ (rowS nb D v b).2.1 ∧ b + (rowS nb D v b).2.1 ≤ nb ∧ (rowS nb D v b).1 ≤ 3 := by
  by_cases h : cnt D v b = 0
  · cases g : cuS nb D v b with
    | some u => rw [rowS_2 h g]; exact ⟨Nat.le_refl 1, hb, by show 2 ≤ 3; omega⟩
    | none =>
      rw [rowS_1 h g]
      have := reS_le (nb := nb) (D := D) (v := v) nb (b + 1)
      have h2 := this.2 (by omega)
      exact ⟨by show 1 ≤ reS nb D v nb (b + 1) - b; omega, by show b + (reS nb D v nb (b + 1) - b) ≤ nb; omega, by show 1 ≤ 3; omega⟩
  · rw [rowS_0 h]; exact ⟨Nat.le_refl 1, hb, by show 0 ≤ 3; omega⟩
def rbS (nb : Nat) (D : q_St) (v : Nat) : Nat → Nat
  | 0 => 0
  | i + 1 => rbS nb D v i + (rowS nb D v (rbS nb D v i)).2.1
theorem rbS_le {nb : Nat} {D : q_St} {v : Nat} : ∀ i, (∀ r, r < i → rbS nb D v r < nb) → i ≤ rbS nb D v i ∧ rbS nb D v i ≤ nb := by
  intro i
  induction i with
  | zero => intro _; exact ⟨Nat.le_refl 0, Nat.zero_le _⟩
  | succ i ih =>
    intro h
    have h1 := ih (fun r hr => h r (by omega))
    have h2 := rowS_len (D := D) (v := v) (h i (by omega))
    show i + 1 ≤ rbS nb D v i + (rowS nb D v (rbS nb D v i)).2.1 ∧ rbS nb D v i + (rowS nb D v (rbS nb D v i)).2.1 ≤ nb
    omega
def isRc (nb : Nat) (D : q_St) (v rc : Nat) : Prop := rbS nb D v rc = nb ∧ ∀ r, r < rc → rbS nb D v r < nb
theorem isRc_un {nb : Nat} {D : q_St} {v n m : Nat} (hn : isRc nb D v n) (hm : isRc nb D v m) : n = m := by
  rcases Nat.lt_trichotomy n m with h | h | h
  · have := hm.2 n h; rw [hn.1] at this; omega
  · exact h
  · have := hn.2 m h; rw [hm.1] at this; omega
def rwS (nb : Nat) (D : q_St) (v i : Nat) : Nat × Nat × Nat × Option Nat := if emp D v nb = true then (3, 0, nb, none) else ((rowS nb D v (rbS nb D v i)).1, rbS nb D v i, (rowS nb D v (rbS nb D v i)).2.1, (rowS nb D v (rbS nb D v i)).2.2)
def rcS (nb : Nat) (D : q_St) (v rc : Nat) : Prop := (emp D v nb = true → rc = if nb = 0 then 0 else 1) ∧ (emp D v nb = false → isRc nb D v rc)
theorem rcS_un {nb : Nat} {D : q_St} {v n m : Nat} (hn : rcS nb D v n) (hm : rcS nb D v m) : n = m := by
  cases h : emp D v nb with
  | true => rw [hn.1 h, hm.1 h]
  | false => exact isRc_un (hn.2 h) (hm.2 h)
theorem rcS_le {nb : Nat} {D : q_St} {v n : Nat} (hn : rcS nb D v n) : n ≤ nb := by
  cases h : emp D v nb with
  | true => rw [hn.1 h]; split <;> omega
  | false =>
    have h1 := hn.2 h
    have h2 := rbS_le n h1.2
    rw [h1.1] at h2
    exact h2.1
section CMAKC
variable {nv nb : Nat} {md : Nat → Bool} {D A : q_St}
def RCs (nb : Nat) (D : q_St) (v j i : Nat) (A : q_St) : Prop := RC D v j i (rwS nb D v i).1 (rwS nb D v i).2.1 (rwS nb D v i).2.2.1 (rwS nb D v i).2.2.2 A
theorem c_end {X : q_St} {Q : q_St → Prop} {v j i s f l : Nat} {o : Option Nat} (S : SV nv nb D X) (hv : v < nv) (hj : 64 ≤ j) (hj2 : j ≤ 94) (hf : f < 40) (hi : i < 40) (hs : s ≤ 3) (x2 : X j 2 = nI (i + 1)) (y0 : X (j + 1) (i * 7) = nI s) (y1 : X (j + 1) (i * 7 + 1) = nI f) (y2 : X (j + 1) (i * 7 + 2) = nI l) (y5 : X (j + 1) (i * 7 + 5) = nI (nS D f o)) (y6 : X (j + 1) (i * 7 + 6) = cfS s o) (T : TabS X (j + 2) i (nS D f o) (wnO D v f o)) (F : FR j i A X) (hq : ∀ B : q_St, B j 2 = nI (i + 1) → RC D v j i s f l o B → FR j i A B → Q B) : aX0_finishRow nv md (16 + 4 * v) j (nI i) Q X := by
  refine c_finish S hv hj hj2 hf x2 (by omega) (by omega) y0 hs y1 T ?_
  refine hq _ ?_ ⟨?_, ?_, ?_, ?_, ?_, ?_, ?_, ?_, fun k w hk hw => ?_⟩ ((F.u (by omega) _).u (by omega) _)
  · rw [qn (by omega), qn (by omega)]; exact x2
  · rw [qs (by omega), qs (by omega)]; exact y0
  · rw [qs (by omega), qs (by omega)]; exact y1
  · rw [qs (by omega), qs (by omega)]; exact y2
  · rw [qs (by omega)]; exact qh
  · exact qh
  · rw [qs (by omega), qs (by omega)]; exact y5
  · rw [qs (by omega), qs (by omega)]; exact y6
  · rw [qn (by omega), qn (by omega)]; exact T.2.1
  · rw [qn (by omega), qn (by omega)]; exact T.2.2.2 k w hk hw
theorem c_b54 {Q : Int32 → q_St → Prop} {v j i s f l : Nat} {o : Option Nat} (S : SV nv nb D A) (hv : v < nv) (hj : 64 ≤ j) (hj2 : j ≤ 94) (hf : f < 40) (hi : i < 40) (hs : s ≤ 3) (ho : ∀ u, o = some u → u < nv) (hso : s = 2 → ¬ o = none) (h2 : A j 2 = nI i) (h3 : A (j + 3) i = nI 0) (hq : ∀ B : q_St, B j 2 = nI (i + 1) → RC D v j i s f l o B → FR j i A B → Q (nI l) B) : aX0_addRowAt_b54 nv md Q (16 + 4 * v) j (nI f) (nI s) (nI l) (vcO o) A := by
  have h6 := S.1.1
  unfold aX0_addRowAt_b54
  refine c_addRow h2 hi (fun B b2 b0 b1 bl b5 b6 bf => ?_)
  have F1 : FR j i A B := fun q m a b _ _ => bf q m a b
  have SB : SV nv nb D B := sv_part S (fun q m hq => bf q m (by omega) (by omega))
  have b3 : B (j + 3) i = nI 0 := by rw [bf _ _ (by omega) (by omega)]; exact h3
  cases o with
  | none =>
    refine ⟨fun _ => ?_, fun a ha => absurd ha (by simp [vcO])⟩
    unfold aX0_addRowAt_b80 aX0_addRowAt_b104
    refine ⟨fun _ => ?_, fun a ha => absurd ha (by simp)⟩
    refine c_end (o := none) SB hv hj hj2 hf hi hs b2 b0 b1 bl b5 ?_ ⟨hi, b3, Nat.zero_le 8, fun k w hk => absurd hk (Nat.not_lt_zero k)⟩ F1 hq
    rw [b6]; unfold cfS; rw [if_neg (fun z => hso z rfl)]
  | some u =>
    have hu := ho u rfl
    refine ⟨fun ha => absurd ha (by simp [vcO]), fun a ha => ?_⟩
    have ea : a = 16 + 4 * u := by simpa [vcO] using ha.symm
    subst ea
    refine c_write SB hv hu hf hj hj2 b2 (by omega) (by omega) b1 b3 (fun W hW => ?_)
    obtain ⟨w1, w2, w3⟩ := hW
    have FW : FR j i A (q_u W (j + 1) (i * 7 + 5) (nI (cnt D u f))) := FR.u (fun q m a b c d => (w3 q m c d).trans (bf q m a b)) (by omega) _
    have SW : SV nv nb D (q_u W (j + 1) (i * 7 + 5) (nI (cnt D u f))) := sv_part SB (fun q m hq => by rw [qn (by omega)]; exact w3 q m (by omega) (by omega))
    have hT : ∀ X : q_St, (∀ q m, q ≠ j + 1 → X q m = W q m) → TabS X (j + 2) i (nS D f (some u)) (wnO D v f (some u)) := fun X hX => ⟨hi, by rw [hX _ _ (by omega)]; exact w1, (S.2.2.2.2.1 u f (by omega) hf).1, fun k w hk hw => by rw [hX _ _ (by omega)]; exact w2 k w hk hw⟩
    have k1 : ∀ m, m ≠ i * 7 + 5 → (q_u W (j + 1) (i * 7 + 5) (nI (cnt D u f))) (j + 1) m = B (j + 1) m := fun m hm => by rw [qs hm]; exact w3 _ _ (by omega) (by omega)
    have k2 : (q_u W (j + 1) (i * 7 + 5) (nI (cnt D u f))) j 2 = nI (i + 1) := by rw [qn (by omega), w3 _ _ (by omega) (by omega)]; exact b2
    unfold aX0_addRowAt_b80 aX0_addRowAt_b104
    refine ⟨fun ha => absurd ha (by simp), fun a ha => ?_⟩
    obtain rfl := Option.some.inj ha
    rw [show (2 : Int32) = nI 2 from rfl, eq_n (by omega) (by omega)]
    refine ⟨fun z => ?_, fun z => ?_⟩
    · refine c_end (o := some u) SW hv hj hj2 hf hi hs k2 (by rw [k1 _ (by omega)]; exact b0) (by rw [k1 _ (by omega)]; exact b1) (by rw [k1 _ (by omega)]; exact bl) qh ?_ (hT _ (fun q m hq => qn hq)) FW hq
      rw [k1 _ (by omega), b6]; unfold cfS; rw [if_neg z]
    · rw [show (6 : Int32) = nI 6 from rfl, c_setF k2 (by omega) (by omega) (by omega), (SW.2.2.2.2.2.2.2.2.1 u hu).1]
      refine c_end (o := some u) (sv_part SW (fun q m hq => by rw [qn (by omega)])) hv hj hj2 hf hi hs (by rw [qn (by omega)]; exact k2) (by rw [qs (by omega), k1 _ (by omega)]; exact b0) (by rw [qs (by omega), k1 _ (by omega)]; exact b1) (by rw [qs (by omega), k1 _ (by omega)]; exact bl) (by rw [qs (by omega)]; exact qh) ?_ (hT _ (fun q m hq => by rw [qn hq, qn hq])) (FW.u (by omega) _) hq
      rw [qh]; unfold cfS; rw [if_pos z]; rfl
theorem c_rowAt {Q : Int32 → q_St → Prop} {v j i b : Nat} (S : SV nv nb D A) (hv : v < nv) (hb : b < nb) (hj : 64 ≤ j) (hj2 : j ≤ 94) (hi : i < 40) (h2 : A j 2 = nI i) (h3 : A (j + 3) i = nI 0) (hq : ∀ B : q_St, B j 2 = nI (i + 1) → RC D v j i (rowS nb D v b).1 b (rowS nb D v b).2.1 (rowS nb D v b).2.2 B → FR j i A B → Q (nI (rowS nb D v b).2.1) B) : aX0_addRowAt nv md (16 + 4 * v) j (nI b) Q A := by
  have h6 := S.1.1
  have h40 := S.1.2.1
  have h8 := (S.2.2.2.2.1 v b (by omega) (by omega)).1
  unfold aX0_addRowAt aX0_addRowAt_b38 aX0_addRowAt_b40
  rw [a3_sizeT (svT S hv (by omega)), nz_n (by omega)]
  by_cases z : cnt D v b = 0
  · rw [brT' z, c_cue S hv hb]
    cases g : cuS nb D v b with
    | none =>
      rw [rowS_1 z g] at hq
      refine ⟨fun _ => ?_, fun a ha => absurd ha (by simp [vcO])⟩
      rw [brT' (show (1 : Int32) = 1 from rfl), c_rest S hv hb]
      exact c_b54 (o := none) (s := 1) S hv hj hj2 (by omega) hi (by omega) (fun u hu => absurd hu (by simp)) (by omega) h2 h3 hq
    | some u =>
      rw [rowS_2 z g] at hq
      have hu := (cuS_ok S hb g).1
      refine ⟨fun ha => absurd ha (by simp [vcO]), fun a ha => ?_⟩
      have ea : a = 16 + 4 * u := by simpa [vcO] using ha.symm
      subst ea
      rw [brF' (show ¬ (2 : Int32) = 1 by decide)]
      exact c_b54 (o := some u) (s := 2) (l := 1) S hv hj hj2 (by omega) hi (by omega) (fun t ht => by obtain rfl := Option.some.inj ht; exact hu) (by simp) h2 h3 hq
  · rw [brF' z, brF' (show ¬ (0 : Int32) = 1 by decide)]
    rw [rowS_0 z] at hq
    exact c_b54 (o := some v) (s := 0) (l := 1) S hv hj hj2 (by omega) hi (by omega) (fun t ht => by obtain rfl := Option.some.inj ht; exact hv) (by simp) h2 h3 hq
theorem nS8 (S : SV nv nb D A) {f : Nat} (hf : f < 40) {o : Option Nat} (ho : ∀ u, o = some u → u < 6) : nS D f o ≤ 8 := by
  cases o with
  | none => exact Nat.zero_le 8
  | some u => exact (S.2.2.2.2.1 u f (ho u rfl) hf).1
theorem rowS_src (S : SV nv nb D A) {v b u : Nat} (hv : v < nv) (hb : b < nb) (h : (rowS nb D v b).2.2 = some u) : u < nv := by
  by_cases z : cnt D v b = 0
  · cases g : cuS nb D v b with
    | none => rw [rowS_1 z g] at h; exact absurd h (by simp)
    | some t => rw [rowS_2 z g] at h; obtain rfl := Option.some.inj h; exact (cuS_ok S hb g).1
  · rw [rowS_0 z] at h; obtain rfl := Option.some.inj h; exact hv
/-- what stands while ROWS are added -/
def MK (nb : Nat) (D : q_St) (v j i : Nat) (A0 A : q_St) : Prop := A j 2 = nI i ∧ (∀ m, i ≤ m → m < 40 → A (j + 3) m = nI 0) ∧ (∀ r, r < i → RC D v j r (rowS nb D v (rbS nb D v r)).1 (rbS nb D v r) (rowS nb D v (rbS nb D v r)).2.1 (rowS nb D v (rbS nb D v r)).2.2 A) ∧ ∀ q m, ¬ (j ≤ q ∧ q ≤ j + 4) → A q m = A0 q m
theorem c_mkL {A0 : q_St} {Q : q_St → Prop} {v j : Nat} (S0 : SV nv nb D A0) (hv : v < nv) (hj : 64 ≤ j) (hj2 : j ≤ 94) (hq : ∀ (A : q_St) (rc : Nat), isRc nb D v rc → MK nb D v j rc A0 A → Q A) : ∀ (F bar i : Nat) (A : q_St), bar ≤ nb → nb < F + bar → (∀ r, r < i → rbS nb D v r < nb) → bar ≤ rbS nb D v i → MK nb D v j i A0 A → alX0_make_b47 nv md Q F (16 + 4 * v) j (nI (rbS nb D v i)) (nI bar) A := by
  have h6 := S0.1.1
  have h40 := S0.1.2.1
  intro F
  induction F with
  | zero => intro bar i A h1 h2; exact absurd h2 (by omega)
  | succ F ih =>
    intro bar i A h1 h2 hr hle hM
    obtain ⟨m1, m2, m3, m4⟩ := id hM
    have S : SV nv nb D A := sv_part S0 (fun q m hq => m4 q m (by omega))
    have hb := rbS_le i hr
    show aX0_make_b47 nv md Q (alX0_make_b47 nv md Q F) (16 + 4 * v) j (nI (rbS nb D v i)) (nI bar) A
    unfold aX0_make_b47 aX0_make_b74
    rw [S.1.2.2.2.1, le_n (by omega) (by omega), lt_n (by omega) (by omega)]
    by_cases g : nb ≤ bar
    · rw [brT g]
      exact hq A i ⟨by omega, hr⟩ hM
    · rw [brF g]
      by_cases g2 : bar < rbS nb D v i
      · rw [brT g2, e1, nI_add]
        exact ih (bar + 1) i A (by omega) (by omega) hr (by omega) hM
      · rw [brF g2]
        have es : bar = rbS nb D v i := by omega
        refine c_rowAt S hv (by omega) hj hj2 (by omega) m1 (m2 i (by omega) (by omega)) (fun B b2 bR bF => ?_)
        have eb : rbS nb D v (i + 1) = bar + (rowS nb D v bar).2.1 := by
          show rbS nb D v i + (rowS nb D v (rbS nb D v i)).2.1 = _
          rw [← es]
        have hlen := rowS_len (D := D) (v := v) (b := bar) (by omega : bar < nb)
        rw [nI_add, ← eb, e1, nI_add]
        refine ih (bar + 1) (i + 1) B (by omega) (by omega) (fun r hr2 => ?_) (by omega) ⟨b2, fun m c1 c2 => ?_, fun r hr2 => ?_, fun q m c1 => ?_⟩
        · by_cases z : r = i
          · rw [z]; omega
          · exact hr r (by omega)
        · rw [bF _ _ (by omega) (by omega) (by omega) (by omega)]; exact m2 m (by omega) c2
        · by_cases z : r = i
          · subst z; rw [← es]; exact bR
          · have hrb := hr r (by omega)
            exact bF.rc (by omega) (nS8 S (by omega) (fun u hu => by have := rowS_src S hv hrb hu; omega)) (m3 r (by omega))
        · rw [bF _ _ (by omega) (by omega) (by omega) (by omega)]; exact m4 q m c1
theorem c_skip {Q : q_St → Prop} {a j : Nat} (h3 : A 1 3 = nI nb) (h40 : nb ≤ 40) : ∀ (F bar : Nat), bar ≤ nb → nb < F + bar → alX0_make_b47 nv md Q F a j (nI nb) (nI bar) A = Q A := by
  intro F
  induction F with
  | zero => intro bar h1 h2; exact absurd h2 (by omega)
  | succ F ih =>
    intro bar h1 h2
    show aX0_make_b47 nv md Q (alX0_make_b47 nv md Q F) a j (nI nb) (nI bar) A = _
    unfold aX0_make_b47 aX0_make_b74
    rw [h3, le_n (by omega) (by omega), lt_n (by omega) (by omega)]
    by_cases g : nb ≤ bar
    · rw [brT g]
    · rw [brF g, brT (by omega), e1, nI_add]
      exact ih (bar + 1) (by omega) (by omega)
/-- the PART j as it is asked for -/
def PrC (nb : Nat) (D : q_St) (v j rc : Nat) (A : q_St) : Prop := A j 2 = nI rc ∧ ∀ i, i < rc → RCs nb D v j i A
theorem c_make {Q : q_St → Prop} {v j : Nat} (S : SV nv nb D A) (hv : v < nv) (hj : 64 ≤ j) (hj2 : j ≤ 94) (hq : ∀ (B : q_St) (rc : Nat), rcS nb D v rc → PrC nb D v j rc B → (∀ q m, ¬ (j ≤ q ∧ q ≤ j + 4) → B q m = A q m) → Q B) : aX0_make nv md (16 + 4 * v) j Q A := by
  have h6 := S.1.1
  have h40 := S.1.2.1
  unfold aX0_make aX4_clear a_p
  show aX3_clearFrom nv md (j + 2) (nI 0) (nI 40) _ (q_u A j 2 0)
  refine a3_clear (by omega) (by omega) (fun B hB => ?_)
  have hB0 : ∀ q m, ¬ (j ≤ q ∧ q ≤ j + 4) → B q m = A q m := fun q m h => by rw [hB, if_neg (by omega), qn (by omega)]
  have b2 : B j 2 = nI 0 := by rw [hB, if_neg (by omega)]; exact qh
  have b3 : ∀ m, 0 ≤ m → m < 40 → B (j + 3) m = nI 0 := fun m _ hm => by rw [hB, if_pos ⟨by omega, by omega, hm⟩]; rfl
  have SB : SV nv nb D B := sv_part S (fun q m h => hB0 q m (by omega))
  simp only []
  rw [a3_total (fun b hb => SB.2.2.1 v b hv hb), nz_n (by have := s_totle S (by omega : v < 6); omega)]
  unfold aX0_make_b44
  have hloop : emp D v nb = false → alX0_make_b47 nv md Q q_fuel (16 + 4 * v) j (nI (rbS nb D v 0)) (nI 0) B := fun he => by
    refine c_mkL SB hv hj hj2 (fun X rc hrc hM => ?_) q_fuel 0 0 B (by omega) (by unfold q_fuel; omega) (fun r hr => absurd hr (Nat.not_lt_zero r)) (by omega) ⟨b2, b3, fun r hr => absurd hr (Nat.not_lt_zero r), fun _ _ _ => rfl⟩
    refine hq X rc ⟨fun z => absurd z (by rw [he]; simp), fun _ => hrc⟩ ⟨hM.1, fun i hi => ?_⟩ (fun q m c => (hM.2.2.2 q m c).trans (hB0 q m c))
    unfold RCs rwS
    rw [if_neg (by rw [he]; simp)]
    exact hM.2.2.1 i hi
  by_cases z : sm (cnt D v) 40 = 0
  · have he := (s_tot0 S (by omega : v < 6)).mp z
    rw [brT' z, SB.1.2.2.2.1, lz_n (by omega)]
    by_cases y : nb = 0
    · rw [brT y]
      subst y
      refine (c_skip (nb := 0) SB.1.2.2.2.1 (by omega) q_fuel 0 (by omega) (by unfold q_fuel; omega)).mpr ?_
      exact hq B 0 ⟨fun _ => rfl, fun q => absurd q (by rw [he]; simp)⟩ ⟨b2, fun i hi => absurd hi (Nat.not_lt_zero i)⟩ hB0
    · rw [brF y]
      refine c_addRow b2 (by omega) (fun X x2 x0 x1 xl x5 x6 xf => ?_)
      have SX : SV nv nb D X := sv_part SB (fun q m hq => xf q m (by omega) (by omega))
      refine c_end (A := B) (o := none) (s := 3) (f := 0) (l := nb) (i := 0) SX hv hj hj2 (by omega) (by omega) (by omega) x2 x0 x1 xl x5 (by rw [x6]; rfl) ⟨by omega, by rw [xf _ _ (by omega) (by omega)]; exact b3 0 (by omega) (by omega), Nat.zero_le 8, fun k w hk => absurd hk (Nat.not_lt_zero k)⟩ (fun q m a b _ _ => xf q m a b) (fun E e2 eR eF => ?_)
      have hE0 : ∀ q m, ¬ (j ≤ q ∧ q ≤ j + 4) → E q m = B q m := fun q m c => eF q m (by omega) (by omega) (by omega) (by omega)
      have hE3 : E 1 3 = nI nb := by rw [hE0 _ _ (by omega)]; exact SB.1.2.2.2.1
      rw [hE3]
      refine (c_skip hE3 h40 q_fuel 0 (by omega) (by unfold q_fuel; omega)).mpr ?_
      refine hq E 1 ⟨fun _ => by rw [if_neg y], fun q => absurd q (by rw [he]; simp)⟩ ⟨e2, fun i hi => ?_⟩ (fun q m c => (hE0 q m c).trans (hB0 q m c))
      rw [show i = 0 by omega]
      unfold RCs rwS
      rw [if_pos he]
      exact eR
  · rw [brF' z]
    exact hloop (by cases h : emp D v nb with | false => rfl | true => exact absurd ((s_tot0 S (by omega : v < 6)).mpr h) z)
end CMAKC
