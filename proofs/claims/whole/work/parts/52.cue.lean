def cuI : Option Nat → Int32
  | none => -100
  | some u => nI u
def vcO (o : Option Nat) : Option Nat := o.map (fun t => 16 + 4 * t)
section CCUE
variable {nv nb : Nat} {md : Nat → Bool} {D A A' : q_St}
theorem n100 {u : Nat} (h : u < 1000) : ¬ nI u = -100 := by rw [i_eq, i_nI (by omega), M_100]; omega
theorem nz_n {n : Nat} (h : n < 2147483648) : (nI n = 0) = (n = 0) := by rw [e0, eq_n h (by omega)]
theorem lz_n {n : Nat} (h : n < 2147483648) : (nI n ≤ 0) = (n = 0) := by rw [e0, le_n h (by omega), eq_iff_iff]; omega
theorem c_euL {Q : Int32 → q_St → Prop} (S : SV nv nb D A) {v : Nat} (hv : v < nv) : ∀ (f b e : Nat), b ≤ 40 → b < f → alX5_emptyUpTo_b4 nv md Q f (16 + 4 * v) (nI e) (nI b + -1) A = Q (nI (e + euS D v b)) A := by
  have h6 := S.1.1
  intro f
  induction f with
  | zero => intro b e h1 h2; exact absurd h2 (by omega)
  | succ f ih =>
    intro b e h1 h2
    show aX5_emptyUpTo_b4 nv md Q (alX5_emptyUpTo_b4 nv md Q f) (16 + 4 * v) (nI e) (nI b + -1) A = _
    unfold aX5_emptyUpTo_b4
    cases b with
    | zero => rw [brT (show nI 0 + -1 < 0 by decide)]; rfl
    | succ b =>
      have h8 := (S.2.2.2.2.1 v b (by omega) (by omega)).1
      rw [show nI (b + 1) + -1 = nI b from pk_m1 b, i_lt, L_0, i_nI (by omega), brF (by omega), a3_sizeT (svT S hv (by omega)), nz_n (by omega), e1, nI_add]
      have e2 := ih b (e + 1) (by omega) (by omega)
      rw [show (-nI 1 : Int32) = -1 from rfl, e2]
      have es : euS D v (b + 1) = if cnt D v b = 0 then euS D v b + 1 else 0 := rfl
      rw [es]
      by_cases z : cnt D v b = 0
      · rw [brT' z, if_pos z, show e + 1 + euS D v b = e + (euS D v b + 1) by omega]
      · rw [brF' z, if_neg z, Nat.add_zero]
theorem m_euL {Q : Int32 → q_St → Prop} (S : SV nv nb D A) {v : Nat} (hv : v < 6) {x : Int32} : ∀ (f b e : Nat), b ≤ 40 → b < f → alX8_cueOf_b38 nv md Q f (nI v) x (nI e) (nI b + -1) A = aX8_cueOf_b62 nv md Q (nI v) x (nI (e + euS D v b)) A := by
  intro f
  induction f with
  | zero => intro b e h1 h2; exact absurd h2 (by omega)
  | succ f ih =>
    intro b e h1 h2
    show aX8_cueOf_b38 nv md Q (alX8_cueOf_b38 nv md Q f) (nI v) x (nI e) (nI b + -1) A = _
    unfold aX8_cueOf_b38
    cases b with
    | zero => rw [brT (show nI 0 + -1 < 0 by decide)]; rfl
    | succ b =>
      rw [show nI (b + 1) + -1 = nI b from pk_m1 b, i_lt, L_0, i_nI (by omega), brF (by omega), m_empty S hv (by omega), brB', e1, nI_add]
      have e2 := ih b (e + 1) (by omega) (by omega)
      rw [show (-nI 1 : Int32) = -1 from rfl, e2]
      have es : euS D v (b + 1) = if cnt D v b = 0 then euS D v b + 1 else 0 := rfl
      rw [es]
      by_cases z : cnt D v b = 0
      · rw [if_pos z, if_pos z, show e + 1 + euS D v b = e + (euS D v b + 1) by omega]
      · rw [if_neg z, if_neg z, Nat.add_zero]
theorem c_fuL {Q : Option Nat → q_St → Prop} (S : SV nv nb D A) {b : Nat} (hb : b < 40) : ∀ (f u : Nat), u ≤ 6 → 6 < f + u → alX5_cueFor_b57 nv md Q f (nI b) (vcO (fuS D b u)) (nI (moS D b (fuS D b u))) (nI u) A = Q (vcO (fuS D b 6)) A := by
  have h6 := S.1.1
  intro f
  induction f with
  | zero => intro u h1 h2; exact absurd h2 (by omega)
  | succ f ih =>
    intro u h1 h2
    show aX5_cueFor_b57 nv md Q (alX5_cueFor_b57 nv md Q f) (nI b) (vcO (fuS D b u)) (nI (moS D b (fuS D b u))) (nI u) A = _
    unfold aX5_cueFor_b57 aX5_cueFor_b106
    rw [show (6 : Int32) = nI 6 from rfl, le_n (by omega) (by omega)]
    by_cases h : 6 ≤ u
    · rw [brT h, show u = 6 by omega]
    · have hmo : moS D b (fuS D b u) ≤ 8 := by
        cases hf : fuS D b u with
        | none => exact Nat.zero_le 8
        | some t => exact (S.2.2.2.2.1 t b (by have := fuS_ok D b u t hf; omega) hb).1
      have hcu := (S.2.2.2.2.1 u b (by omega) hb).1
      have ih1 := ih (u + 1) (by omega) (by omega)
      rw [fuS_step] at ih1
      rw [brF h]
      unfold aX5_voiceAt
      simp only [brO]
      rw [i_nI (by omega), cl_nI (by omega), e1, nI_add]
      by_cases g : u < nv
      · rw [if_pos (by omega), a3_sizeT (svT S g hb), le_n (by omega) (by omega)]
        by_cases z : cnt D u b ≤ moS D b (fuS D b u)
        · rw [if_pos z] at ih1
          rw [brT z]
          exact ih1
        · rw [if_neg z] at ih1
          rw [brF z, a3_sizeT (svT S g hb)]
          exact ih1
      · rw [if_neg (by omega)]
        rw [S.2.2.2.2.2.1 u b (by omega) hb (Or.inl (by omega)), if_pos (Nat.zero_le _)] at ih1
        exact ih1
theorem c_cue {Q : Option Nat → q_St → Prop} (S : SV nv nb D A) {v b : Nat} (hv : v < nv) (hb : b < nb) : aX5_cueFor nv md (16 + 4 * v) (nI b) Q A = Q (vcO (cuS nb D v b)) A := by
  have h6 := S.1.1
  have h40 := S.1.2.1
  have h8 := (S.2.2.2.2.1 v b (by omega) (by omega)).1
  unfold aX5_cueFor aX5_cueFor_b28 aX5_cueFor_b29
  rw [a3_sizeT (svT S hv (by omega)), nz_n (by omega)]
  by_cases z : cnt D v b = 0
  · rw [brT' z, a3_size, e1, nI_add, i_nI (by omega)]
    have hsz : (if 0 ≤ ((b + 1 : Nat) : Int) ∧ ((b + 1 : Nat) : Int) < 40 then A (16 + 4 * v + 1 + 1) ((b + 1 : Nat) : Int).toNat else 0) = nI (if b + 1 < nb then cnt D v (b + 1) else 0) := by
      by_cases g : b + 1 < nb
      · rw [if_pos (by omega), if_pos g]
        exact S.2.2.1 v (b + 1) hv (by omega)
      · rw [if_neg g]
        by_cases g2 : b + 1 < 40
        · rw [if_pos (by omega)]
          have e := S.2.2.1 v (b + 1) hv g2
          rw [S.2.2.2.2.2.1 v (b + 1) (by omega) g2 (Or.inr (by omega))] at e
          exact e
        · rw [if_neg (by omega)]; rfl
    rw [hsz]
    by_cases g : b + 1 < nb
    · have h9 := (S.2.2.2.2.1 v (b + 1) (by omega) (by omega)).1
      rw [if_pos g, lz_n (by omega)]
      by_cases y : cnt D v (b + 1) = 0
      · rw [brT y, brT rfl]
        unfold cuS
        rw [if_neg (by omega)]
        rfl
      · rw [brF y, brF (show ¬ nI 1 = 0 by decide)]
        unfold aX5_emptyUpTo
        rw [← show nI (b + 1) + -1 = nI b from pk_m1 b]
        have e := c_euL (md := md) (Q := fun v_13 A_12 => ((A_12 1 4) ≤ v_13 → alX5_cueFor_b57 nv md Q q_fuel (nI (b + 1) + -1) none 0 0 A_12) ∧ (¬ (A_12 1 4) ≤ v_13 → Q none A_12)) S hv q_fuel (b + 1) 0 (by omega) (by unfold q_fuel; omega)
        refine Eq.trans e ?_
        have hle := euS_le D v (b + 1)
        rw [S.1.2.2.2.2.2.1, Nat.zero_add, i_le, i_nI (by omega), show nI (b + 1) + -1 = nI b from pk_m1 b]
        unfold cuS
        by_cases w : (D 128 11).toInt ≤ euS D v (b + 1)
        · rw [brT w, if_pos ⟨z, g, y, w⟩]
          exact c_fuL S (by omega) q_fuel 0 (by omega) (by unfold q_fuel; omega)
        · rw [brF w, if_neg (by rintro ⟨-, -, -, q⟩; exact w q)]
          rfl
    · rw [if_neg g, brT (show nI 0 ≤ 0 by decide), brT rfl]
      unfold cuS
      rw [if_neg (by omega)]
      rfl
  · rw [brF' z, brT rfl]
    unfold cuS
    rw [if_neg (by omega)]
    rfl
theorem m_fuL {Q : Int32 → q_St → Prop} (S : SV nv nb D A) {v b e : Nat} (hv : v < 6) (hb : b < 40) (z : cnt D v b = 0) (he : e < 100) (w : (D 128 11).toInt ≤ e) : ∀ (f u : Nat), u ≤ nv → nv < f + u → alX8_cueOf_b69 nv md Q f (nI v) (nI b) (nI e) (cuI (fuS D b u)) (nI u) A = Q (cuI (fuS D b nv)) A := by
  have h6 := S.1.1
  intro f
  induction f with
  | zero => intro u h1 h2; exact absurd h2 (by omega)
  | succ f ih =>
    intro u h1 h2
    show aX8_cueOf_b69 nv md Q (alX8_cueOf_b69 nv md Q f) (nI v) (nI b) (nI e) (cuI (fuS D b u)) (nI u) A = _
    unfold aX8_cueOf_b69 aX8_cueOf_b136 aX8_cueOf_b140
    rw [S.1.2.2.1, le_n (by omega) (by omega)]
    by_cases h : nv ≤ u
    · rw [brT h, show u = nv by omega]
    · have ih1 := ih (u + 1) (by omega) (by omega)
      rw [fuS_step] at ih1
      rw [brF h, S.1.2.2.2.2.2.2, i_lt, i_nI (by omega), brF (by omega), eq_n (by omega) (by omega), e1, nI_add, m_empty S (by omega) hb, brB]
      by_cases q : u = v
      · subst q
        rw [z, if_pos (Nat.zero_le _)] at ih1
        rw [brT rfl]
        exact ih1
      · rw [brF q]
        by_cases y : cnt D u b = 0
        · rw [y, if_pos (Nat.zero_le _)] at ih1
          rw [if_pos y]
          exact ih1
        · rw [if_neg y]
          cases hf : fuS D b u with
          | none =>
            rw [hf] at ih1
            rw [if_neg (show ¬ cnt D u b ≤ moS D b none by show ¬ cnt D u b ≤ 0; omega)] at ih1
            rw [brT (show cuI none = -100 from rfl)]
            exact ih1
          | some t =>
            have ht := fuS_ok D b u t hf
            have c1 := (S.2.2.2.2.1 u b (by omega) hb)
            have c2 := (S.2.2.2.2.1 t b (by omega) hb)
            rw [hf] at ih1
            rw [brF (show ¬ cuI (some t) = -100 from n100 (by omega))]
            show (vp_in (40 * nI u + nI b) 240 ∧ vp_in (40 * nI t + nI b) 240 ∧ _) = _
            rw [e40, n_ma, n_ma, in_n (by omega) (by omega), in_n (by omega) (by omega), cl_nI (by omega)]
            show ((A 132 (40 * u + b) ≤ A 132 (nI 40 * nI t + nI b).toNatClampNeg → _) ∧ (¬ A 132 (40 * u + b) ≤ A 132 (nI 40 * nI t + nI b).toNatClampNeg → _)) = _
            rw [n_ma, cl_nI (by omega), S.2.1 132 (by omega) (by omega), c1.2, c2.2, le_n (by omega) (by omega)]
            by_cases g : cnt D u b ≤ cnt D t b
            · rw [if_pos (show cnt D u b ≤ moS D b (some t) from g)] at ih1
              rw [brT g]
              exact ih1
            · rw [if_neg (show ¬ cnt D u b ≤ moS D b (some t) from g)] at ih1
              rw [brF g]
              exact ih1
theorem m_cue {Q : Int32 → q_St → Prop} (S : SV nv nb D A) {v b : Nat} (hv : v < nv) (hb : b < nb) : aX8_cueOf nv md (nI v) (nI b) Q A = Q (cuI (cuS nb D v b)) A := by
  have h6 := S.1.1
  have h40 := S.1.2.1
  unfold aX8_cueOf
  rw [m_empty S (by omega) (by omega), brB', S.1.2.2.2.2.1, e1, nI_add, eq_n (by omega) (by omega)]
  by_cases z : cnt D v b = 0
  · rw [if_pos z]
    by_cases g : b + 1 = nb
    · rw [brT g]
      unfold cuS
      rw [if_neg (by omega)]
      rfl
    · rw [brF g, m_empty S (by omega) (by omega), brB']
      by_cases y : cnt D v (b + 1) = 0
      · rw [if_pos y]
        unfold cuS
        rw [if_neg (by omega)]
        rfl
      · rw [if_neg y]
        have hle := euS_le D v (b + 1)
        have e := m_euL (md := md) (Q := Q) (x := nI b) S (by omega : v < 6) q_fuel (b + 1) 0 (by omega) (by unfold q_fuel; omega)
        rw [show nI (b + 1) + -1 = nI b from pk_m1 b, Nat.zero_add] at e
        refine Eq.trans e ?_
        unfold aX8_cueOf_b62 cuS
        by_cases w : (D 128 11).toInt ≤ euS D v (b + 1)
        · rw [if_pos ⟨z, by omega, y, w⟩]
          have e2 := m_fuL (md := md) (Q := Q) S (by omega : v < 6) (by omega : b < 40) z (by omega : euS D v (b + 1) < 100) w q_fuel 0 (by omega) (by unfold q_fuel; omega)
          refine Eq.trans e2 ?_
          have e3 := fuS_z (D := D) (b := b) (n := nv) (6 - nv) (fun u h1 h2 => S.2.2.2.2.2.1 u b (by omega) (by omega) (Or.inl h1))
          rw [show nv + (6 - nv) = 6 by omega] at e3
          rw [e3]
        · rw [if_neg (by rintro ⟨-, -, -, q⟩; exact w q)]
          show aX8_cueOf_b69 nv md Q (alX8_cueOf_b69 nv md Q _) (nI v) (nI b) (nI (euS D v (b + 1))) (-100) (nI 0) A = _
          unfold aX8_cueOf_b69
          rw [S.1.2.2.1, le_n (by omega) (by omega), brF (by omega), S.1.2.2.2.2.2.2, i_lt, i_nI (by omega), brT (by omega)]
          rfl
  · rw [if_neg z]
    unfold cuS
    rw [if_neg (by omega)]
    rfl
theorem cu_no {Z : Prop} {X : Prop} {o : Option Nat} : ((vcO o = none → X) ∧ (∀ a, vcO o = some a → Z)) = (if o = none then X else Z) := by
  cases o <;> simp [vcO]
theorem c_restL {Q : Int32 → q_St → Prop} (S : SV nv nb D A) {v b0 : Nat} (hv : v < nv) : ∀ (f F x : Nat), nb ≤ f + x → f < F → x ≤ nb → alX0_restLength_b4 nv md Q F (16 + 4 * v) (nI b0) (nI x) A = Q (nI (reS nb D v f x) - nI b0) A := by
  have h6 := S.1.1
  have h40 := S.1.2.1
  intro f
  induction f with
  | zero =>
    intro F x h1 h2 h3
    cases F with
    | zero => exact absurd h2 (by omega)
    | succ F =>
      show aX0_restLength_b4 nv md Q (alX0_restLength_b4 nv md Q F) (16 + 4 * v) (nI b0) (nI x) A = _
      unfold aX0_restLength_b4 aX0_restLength_b49
      rw [S.1.2.2.2.1, le_n (by omega) (by omega), brT (by omega)]
      rfl
  | succ f ih =>
    intro F x h1 h2 h3
    cases F with
    | zero => exact absurd h2 (by omega)
    | succ F =>
      show aX0_restLength_b4 nv md Q (alX0_restLength_b4 nv md Q F) (16 + 4 * v) (nI b0) (nI x) A = _
      unfold aX0_restLength_b4 aX0_restLength_b49
      have es : reS nb D v (f + 1) x = if x < nb ∧ cnt D v x = 0 ∧ ndS D x = false ∧ cuS nb D v x = none then reS nb D v f (x + 1) else x := rfl
      rw [S.1.2.2.2.1, le_n (by omega) (by omega), es]
      by_cases g : nb ≤ x
      · rw [brT g, if_neg (by omega)]
      · have h8 := (S.2.2.2.2.1 v x (by omega) (by omega)).1
        rw [brF g, a3_sizeT (svT S hv (by omega)), nz_n (by omega), c_need S (by omega), brD, c_cue S hv (by omega), cu_no, e1, nI_add]
        by_cases z : cnt D v x = 0
        · rw [brT' z]
          by_cases y : ndS D x = true
          · rw [if_pos y, if_neg (by rw [y]; simp)]
          · rw [if_neg y]
            by_cases w : cuS nb D v x = none
            · rw [if_pos w, if_pos ⟨by omega, z, by simpa using y, w⟩]
              exact ih F (x + 1) (by omega) (by omega) (by omega)
            · rw [if_neg w, if_neg (fun q => w q.2.2.2)]
        · rw [brF' z, if_neg (fun q => z q.2.1)]
theorem c_rest {Q : Int32 → q_St → Prop} (S : SV nv nb D A) {v b : Nat} (hv : v < nv) (hb : b < nb) : aX0_restLength nv md (16 + 4 * v) (nI b) Q A = Q (nI (reS nb D v nb (b + 1) - b)) A := by
  have h40 := S.1.2.1
  unfold aX0_restLength
  rw [e1, nI_add, c_restL S hv nb q_fuel (b + 1) (by omega) (by unfold q_fuel; omega) (by omega), pk_sub]
  have := (reS_le (nb := nb) (D := D) (v := v) nb (b + 1)).1
  omega
theorem cuI_no {Z : Prop} {X : Prop} {o : Option Nat} (ho : ∀ u, o = some u → u < 1000) : ((¬ cuI o = -100 → X) ∧ (cuI o = -100 → Z)) = (if o = none then Z else X) := by
  cases o with
  | none => simp [cuI]
  | some u => simp [cuI, n100 (ho u rfl)]
theorem cuI_no' {Z : Prop} {X : Prop} {o : Option Nat} (ho : ∀ u, o = some u → u < 1000) : ((cuI o = -100 → Z) ∧ (¬ cuI o = -100 → X)) = (if o = none then Z else X) := by
  cases o with
  | none => simp [cuI]
  | some u => simp [cuI, n100 (ho u rfl)]
theorem cuS_ok (S : SV nv nb D A) {v b u : Nat} (hb : b < nb) (h : cuS nb D v b = some u) : u < nv ∧ 0 < cnt D u b := by
  have h40 := S.1.2.1
  unfold cuS at h
  by_cases g : cnt D v b = 0 ∧ b + 1 < nb ∧ ¬ cnt D v (b + 1) = 0 ∧ (D 128 11).toInt ≤ euS D v (b + 1)
  · rw [if_pos g] at h
    obtain ⟨h1, h2⟩ := fuS_ok D b 6 u h
    refine ⟨?_, h2⟩
    by_cases y : u < nv
    · exact y
    · have := S.2.2.2.2.2.1 u b (by omega) (by omega) (Or.inl (by omega))
      omega
  · rw [if_neg g] at h; exact absurd h (by simp)
theorem m_restL {Q : q_St → Prop} {K : Int32 → Int32 → q_St → Prop} (S : SV nv nb D A) {v b0 : Nat} (hv : v < nv) : ∀ (f F x : Nat), nb ≤ f + x → f < F → x ≤ nb → alX8_make_b104 nv md Q K F (nI v) (nI b0) (nI x) A = aX8_make_b150 nv md Q K (nI v) (nI b0) (nI (reS nb D v f x)) A := by
  have h6 := S.1.1
  have h40 := S.1.2.1
  intro f
  induction f with
  | zero =>
    intro F x h1 h2 h3
    cases F with
    | zero => exact absurd h2 (by omega)
    | succ F =>
      show aX8_make_b104 nv md Q K (alX8_make_b104 nv md Q K F) (nI v) (nI b0) (nI x) A = _
      unfold aX8_make_b104
      rw [S.1.2.2.2.2.1, le_n (by omega) (by omega), brT (by omega)]
      rfl
  | succ f ih =>
    intro F x h1 h2 h3
    cases F with
    | zero => exact absurd h2 (by omega)
    | succ F =>
      show aX8_make_b104 nv md Q K (alX8_make_b104 nv md Q K F) (nI v) (nI b0) (nI x) A = _
      unfold aX8_make_b104
      have es : reS nb D v (f + 1) x = if x < nb ∧ cnt D v x = 0 ∧ ndS D x = false ∧ cuS nb D v x = none then reS nb D v f (x + 1) else x := rfl
      rw [S.1.2.2.2.2.1, le_n (by omega) (by omega), es]
      by_cases g : nb ≤ x
      · rw [brT g, if_neg (by omega)]
      · rw [brF g, m_empty S (by omega) (by omega), brB', m_need S (by omega), brD, m_cue S hv (by omega), cuI_no (fun u hu => by have := (cuS_ok S (by omega) hu).1; omega), e1, nI_add]
        by_cases z : cnt D v x = 0
        · rw [if_pos z]
          by_cases y : ndS D x = true
          · rw [if_pos y, if_neg (by rw [y]; simp)]
          · rw [if_neg y]
            by_cases w : cuS nb D v x = none
            · rw [if_pos w, if_pos ⟨by omega, z, by simpa using y, w⟩]
              exact ih F (x + 1) (by omega) (by omega) (by omega)
            · rw [if_neg w, if_neg (fun q => w q.2.2.2)]
        · rw [if_neg z, if_neg (fun q => z q.2.1)]
end CCUE
