theorem exB_congr {P P' : Nat → Bool} : ∀ {n : Nat}, (∀ k, k < n → P k = P' k) → exB P n = exB P' n := by
  intro n
  induction n with
  | zero => intro _; rfl
  | succ n ih =>
    intro h
    show (exB P n || P n) = (exB P' n || P' n)
    rw [ih (fun k hk => h k (by omega)), h n (by omega)]
theorem alB_congr {P P' : Nat → Bool} : ∀ {n : Nat}, (∀ k, k < n → P k = P' k) → alB P n = alB P' n := by
  intro n
  induction n with
  | zero => intro _; rfl
  | succ n ih =>
    intro h
    show (alB P n && P n) = (alB P' n && P' n)
    rw [ih (fun k hk => h k (by omega)), h n (by omega)]
theorem inc_le {f : Nat → Int} {n : Nat} (h : ∀ k, k + 1 < n → f k < f (k + 1)) : ∀ d k, k + d < n → f k + d ≤ f (k + d) := by
  intro d
  induction d with
  | zero => intro k hk; simp
  | succ d ih =>
    intro k hk
    have h1 := ih k (by omega)
    have h2 := h (k + d) (by omega)
    rw [show k + (d + 1) = k + d + 1 by omega]
    omega
theorem inc_lt {f : Nat → Int} {n : Nat} (h : ∀ k, k + 1 < n → f k < f (k + 1)) {a b : Nat} (ha : a < n) (hb : b < n) (hf : f a < f b) : a < b := by
  rcases Nat.lt_or_ge a b with q | q
  · exact q
  · have := inc_le h (a - b) b (by omega)
    rw [show b + (a - b) = a by omega] at this
    omega
theorem inc_id {f f2 : Nat → Int} {n : Nat} (h1 : ∀ k, k + 1 < n → f k < f (k + 1)) (h2 : ∀ k, k + 1 < n → f2 k < f2 (k + 1)) (he : ∀ k, k < n → ∃ q, q < n ∧ f k = f2 q) : ∀ k, k < n → ∀ q, q < n → f k = f2 q → q = k := by
  have c1 : ∀ k, k < n → ∀ q, q < n → f k = f2 q → k ≤ q := by
    intro k
    induction k with
    | zero => intro _ q _ _; omega
    | succ k ih =>
      intro hk q hq e
      obtain ⟨q', hq', e'⟩ := he k (by omega)
      have i1 := ih (by omega) q' hq' e'
      have i2 := inc_lt h2 hq' hq (by rw [← e', ← e]; exact h1 k hk)
      omega
  have c2 : ∀ d k, k + d + 1 = n → ∀ q, q < n → f k = f2 q → q + d < n := by
    intro d
    induction d with
    | zero => intro k _ q hq _; omega
    | succ d ih =>
      intro k hk q hq e
      obtain ⟨q', hq', e'⟩ := he (k + 1) (by omega)
      have i1 := ih (k + 1) (by omega) q' hq' e'
      have i2 := inc_lt h2 hq hq' (by rw [← e', ← e]; exact h1 k (by omega))
      omega
  intro k hk q hq e
  have := c1 k hk q hq e
  have := c2 (n - 1 - k) k (by omega) q hq e
  omega
section CCON2
variable {nv nb : Nat} {md : Nat → Bool} {Q : Int32 → q_St → Prop} {A : q_St}
theorem rIn_eq {v u b n m : Nat} : rIn n m (ng A v b) (ng A u b) = aIn A false (40 * v + b) (40 * u + b) n m := by
  unfold rIn aIn
  refine alB_congr (fun k hk => exB_congr (fun q hq => ?_))
  unfold lik ng
  simp only [Nat.add_zero, Bool.not_false, Bool.true_or, Bool.and_true]
  rw [decide_eq_decide]
  constructor
  · rintro ⟨a, c⟩; exact ⟨a.symm, c.symm⟩
  · rintro ⟨a, c⟩; exact ⟨a.symm, c.symm⟩
theorem key_inc (C : Corr nv md nb A) {v b : Nat} (hv : v < 6) (hb : b < 40) : ∀ k, k + 1 < cnt A v b → (A 133 (8 * (40 * v + b) + k)).toInt * 128 + (A 135 (8 * (40 * v + b) + k)).toInt < (A 133 (8 * (40 * v + b) + (k + 1))).toInt * 128 + (A 135 (8 * (40 * v + b) + (k + 1))).toInt := by
  intro k hk
  have h1 := C.2.2.1 v b k hv hb (by omega)
  have h2 := C.2.2.1 v b (k + 1) hv hb hk
  have h3 := h1.2 hk
  unfold lexlt at h3
  unfold nok at h1 h2
  obtain ⟨⟨a1, a2, a3, a4, a5, a6, a7, a8⟩, _⟩ := h1
  obtain ⟨⟨b1, b2, b3, b4, b5, b6, b7, b8⟩, _⟩ := h2
  omega
theorem alk_eq (C : Corr nv md nb A) {v u b : Nat} (hv : v < 6) (hu : u < 6) (hb : b < 40) : alk (cnt A v b) (cnt A u b) (ng A v b) (ng A u b) = (decide (cnt A v b = cnt A u b) && (aIn A true (40 * v + b) (40 * u + b) (cnt A v b) (cnt A u b) && aIn A true (40 * u + b) (40 * v + b) (cnt A u b) (cnt A v b))) := by
  unfold alk
  by_cases hn : cnt A v b = cnt A u b
  · rw [decide_eq_true hn, Bool.true_and, Bool.true_and]
    refine alB_eq ?_
    rw [Bool.and_eq_true]
    unfold aIn
    rw [alB_iff, alB_iff]
    have lk : ∀ x y k q, lik A true x y k q = true ↔ ((A 133 (8 * x + k) = A 133 (8 * y + q) ∧ A 134 (8 * x + k) = A 134 (8 * y + q)) ∧ (A 135 (8 * x + k) = A 135 (8 * y + q) ∧ A 136 (8 * x + k) = A 136 (8 * y + q))) := by
      intro x y k q
      unfold lik
      simp
    constructor
    · intro h
      refine ⟨fun k hk => exB_iff.mpr ⟨k, by omega, (lk _ _ _ _).mpr ?_⟩, fun k hk => exB_iff.mpr ⟨k, by omega, (lk _ _ _ _).mpr ?_⟩⟩
      · have z := alB_iff.mp (h k hk)
        unfold ng at z
        have z0 := z 0 (by omega)
        have z1 := z 1 (by omega)
        have z2 := z 2 (by omega)
        have z3 := z 3 (by omega)
        simp at z0 z1 z2 z3
        exact ⟨⟨z0, z1⟩, z2, z3⟩
      · have z := alB_iff.mp (h k (by omega))
        unfold ng at z
        have z0 := z 0 (by omega)
        have z1 := z 1 (by omega)
        have z2 := z 2 (by omega)
        have z3 := z 3 (by omega)
        simp at z0 z1 z2 z3
        exact ⟨⟨z0.symm, z1.symm⟩, z2.symm, z3.symm⟩
    · rintro ⟨h, -⟩ k hk
      obtain ⟨q, hq, e⟩ := exB_iff.mp (h k hk)
      rw [lk] at e
      have hi := inc_id (f := fun k => (A 133 (8 * (40 * v + b) + k)).toInt * 128 + (A 135 (8 * (40 * v + b) + k)).toInt) (f2 := fun k => (A 133 (8 * (40 * u + b) + k)).toInt * 128 + (A 135 (8 * (40 * u + b) + k)).toInt) (n := cnt A v b) (key_inc C hv hb) (fun k hk => key_inc C hu hb k (by omega)) (fun k hk => by
        obtain ⟨q, hq, e⟩ := exB_iff.mp (h k hk)
        rw [lk] at e
        refine ⟨q, by omega, ?_⟩
        show _ * 128 + _ = _ * 128 + _
        rw [e.1.1, e.2.1]) k hk q (by omega) (by
        show _ * 128 + _ = _ * 128 + _
        rw [e.1.1, e.2.1])
      subst hi
      refine alB_iff.mpr (fun w hw => ?_)
      unfold ng
      rcases (show w = 0 ∨ w = 1 ∨ w = 2 ∨ w = 3 by omega) with rfl | rfl | rfl | rfl
      · simp; exact e.1.1
      · simp; exact e.1.2
      · simp; exact e.2.1
      · simp; exact e.2.2
  · rw [decide_eq_false hn, Bool.false_and, Bool.false_and]
theorem cond_same (C : Corr nv md nb A) {v u b : Nat} (hv : v < nv) (hu : u < nv) (hb : b < 40) {Q2 : Int32 → q_St → Prop} : ∃ r : Int32, (r = 5 ∨ ¬ (5 : Int32) ≤ r) ∧ (∀ Q : Int32 → q_St → Prop, aX7_condense nv md (16 + 4 * v + 1) (16 + 4 * u + 1) (nI b) Q A = Q r A) ∧ (∀ Q : Int32 → q_St → Prop, aX8_condensedAt nv md (nI v) (nI u) (nI b) Q A = Q r A) := by
  have hn := C.1.1
  refine ⟨_, ?_, fun Q => a7_condense (vT C hv hb) (vT C hu hb), fun Q => ?_⟩
  · unfold cds
    split
    · split
      · right; decide
      · right; decide
    · split
      · right; decide
      · split
        · right; decide
        · split
          · right; decide
          · left; rfl
  · rw [a8_condAt C (by omega) (by omega) hb, alk_eq C (by omega) (by omega) hb, rIn_eq, rIn_eq]
theorem op_condensed (C : Corr nv md nb A) (x y z : Int32) : aX7_condensed nv md x y z (fun r A1 => aX8_condensed nv md x y z (fun r2 A2 => r = r2 ∧ Corr nv md nb A2) A1) A := by
  obtain ⟨d1, d2, d3, d4, d5, d6, d7⟩ := C.1
  unfold aX7_condensed aX5_voiceAt
  simp only [brO, a5_hasBar d5 d2, brB]
  unfold aX8_condensed
  simp only [a8_isVoice d4 d1, a8_isBar d6 d2, brB, brB']
  by_cases h1 : 0 ≤ x.toInt ∧ x.toInt < nv
  · by_cases h2 : 0 ≤ y.toInt ∧ y.toInt < nv
    · by_cases h3 : 0 ≤ z.toInt ∧ z.toInt < nb
      · by_cases h4 : x = y
        · simp only [if_pos h1, if_pos h2, if_pos h3]
          rw [brT' h4, brT' h4]
          (first | exact ⟨rfl, C⟩ | exact ⟨trivial, C⟩)
        · simp only [if_pos h1, if_pos h2, if_pos h3]
          rw [brF' h4]
          obtain ⟨v, hv, rfl⟩ := i_of h1.1 h1.2 (by omega)
          obtain ⟨u, hu, rfl⟩ := i_of h2.1 h2.2 (by omega)
          obtain ⟨b, hb, rfl⟩ := i_of h3.1 h3.2 (by omega)
          obtain ⟨r, -, hr1, hr2⟩ := cond_same C hv hu (b := b) (by omega) (Q2 := fun _ _ => True)
          rw [cl_nI (by omega), cl_nI (by omega), hr1]
          simp only [a8_isVoice d4 d1, a8_isBar d6 d2, brB, brB']
          rw [if_pos h1, if_pos h2, if_pos h3, brF' h4, hr2]
          exact ⟨rfl, C⟩
      · simp only [if_pos h1, if_pos h2, if_neg h3]
        (first | exact ⟨rfl, C⟩ | exact ⟨trivial, C⟩)
    · simp only [if_pos h1, if_neg h2]
      (first | exact ⟨rfl, C⟩ | exact ⟨trivial, C⟩)
  · simp only [if_neg h1]
    (first | exact ⟨rfl, C⟩ | exact ⟨trivial, C⟩)
def rcd (A : q_St) (v u b : Nat) : Int32 := cds (cnt A v b) (cnt A u b) (alk (cnt A v b) (cnt A u b) (ng A v b) (ng A u b)) (rIn (cnt A v b) (cnt A u b) (ng A v b) (ng A u b) && rIn (cnt A u b) (cnt A v b) (ng A u b) (ng A v b))
theorem rcd5 (A : q_St) (v u b : Nat) : rcd A v u b = 5 ∨ ¬ (5 : Int32) ≤ rcd A v u b := by
  unfold rcd cds
  split
  · split
    · right; decide
    · right; decide
  · split
    · right; decide
    · split
      · right; decide
      · split
        · right; decide
        · left; rfl
theorem cond7 (C : Corr nv md nb A) {v u b : Nat} (hv : v < nv) (hu : u < nv) (hb : b < 40) : aX7_condense nv md (16 + 4 * v + 1) (16 + 4 * u + 1) (nI b) Q A = Q (rcd A v u b) A := a7_condense (vT C hv hb) (vT C hu hb)
theorem cond8 (C : Corr nv md nb A) {v u b : Nat} (hv : v < 6) (hu : u < 6) (hb : b < 40) : aX8_condensedAt nv md (nI v) (nI u) (nI b) Q A = Q (rcd A v u b) A := by
  rw [a8_condAt C hv hu hb]
  unfold rcd
  rw [alk_eq C hv hu hb, rIn_eq, rIn_eq]
theorem a7_togL (C : Corr nv md nb A) {v u : Nat} (hv : v < nv) (hu : u < nv) : ∀ (m b : Nat), b ≤ nb → nb + 1 ≤ m + b → alX7_together_b45 nv md Q m (16 + 4 * v) (16 + 4 * u) (nI (sm (fun b => if rcd A v u b = 5 then 0 else 1) b)) (nI b) A = Q (nI (sm (fun b => if rcd A v u b = 5 then 0 else 1) nb)) A := by
  obtain ⟨d1, d2, d3, d4, d5, d6, d7⟩ := C.1
  intro m
  induction m with
  | zero => intro b h1 h2; exact absurd h2 (by omega)
  | succ m ih =>
    intro b h1 h2
    show aX7_together_b45 nv md Q (alX7_together_b45 nv md Q m) (16 + 4 * v) (16 + 4 * u) (nI _) (nI b) A = _
    unfold aX7_together_b45 aX7_together_b78
    rw [d5, le_n (by omega) (by omega)]
    by_cases h : nb ≤ b
    · rw [brT h, show b = nb by omega]
    · rw [brF h, cond7 C hv hu (by omega)]
      have ih1 := ih (b + 1) (by omega) (by omega)
      have es : sm (fun b => if rcd A v u b = 5 then 0 else 1) (b + 1) = sm (fun b => if rcd A v u b = 5 then 0 else 1) b + (if rcd A v u b = 5 then 0 else 1) := rfl
      rw [es] at ih1
      simp only [e1, nI_add]
      by_cases q : rcd A v u b = 5
      · rw [brT q]; rw [if_pos q] at ih1; exact ih1
      · rw [brF q]; rw [if_neg q] at ih1; exact ih1
theorem a8_togL (C : Corr nv md nb A) {v u : Nat} (hv : v < 6) (hu : u < 6) : ∀ (m b : Nat), b ≤ nb → nb + 1 ≤ m + b → alX8_together_b32 nv md Q m (nI v) (nI u) (nI (sm (fun b => if rcd A v u b = 5 then 0 else 1) b)) (nI b) A = Q (nI (sm (fun b => if rcd A v u b = 5 then 0 else 1) nb)) A := by
  obtain ⟨d1, d2, d3, d4, d5, d6, d7⟩ := C.1
  intro m
  induction m with
  | zero => intro b h1 h2; exact absurd h2 (by omega)
  | succ m ih =>
    intro b h1 h2
    show aX8_together_b32 nv md Q (alX8_together_b32 nv md Q m) (nI v) (nI u) (nI _) (nI b) A = _
    unfold aX8_together_b32 aX8_together_b59
    rw [d6, le_n (by omega) (by omega)]
    by_cases h : nb ≤ b
    · rw [brT h, show b = nb by omega]
    · rw [brF h, cond8 C hv hu (by omega)]
      have ih1 := ih (b + 1) (by omega) (by omega)
      have es : sm (fun b => if rcd A v u b = 5 then 0 else 1) (b + 1) = sm (fun b => if rcd A v u b = 5 then 0 else 1) b + (if rcd A v u b = 5 then 0 else 1) := rfl
      rw [es] at ih1
      by_cases q : rcd A v u b = 5
      · rw [brT (by rw [q]; decide)]; rw [if_pos q] at ih1
        simp only [e1, e0, nI_add]
        exact ih1
      · rw [brF ((rcd5 A v u b).resolve_left q)]; rw [if_neg q] at ih1
        simp only [e1, nI_add]
        exact ih1
theorem op_together (C : Corr nv md nb A) (x y : Int32) : aX7_together nv md x y (fun r A1 => aX8_together nv md x y (fun r2 A2 => r = r2 ∧ Corr nv md nb A2) A1) A := by
  obtain ⟨d1, d2, d3, d4, d5, d6, d7⟩ := C.1
  unfold aX7_together aX5_voiceAt
  simp only [brO]
  by_cases h1 : 0 ≤ x.toInt ∧ x.toInt < nv
  · by_cases h2 : 0 ≤ y.toInt ∧ y.toInt < nv
    · by_cases h4 : x = y
      · simp only [if_pos h1, if_pos h2]
        rw [brT' h4]
        unfold aX8_together
        simp only [a8_isVoice d4 d1, brB, brB']
        rw [if_pos h1, if_pos h2, brT' h4]
        (first | exact ⟨rfl, C⟩ | exact ⟨trivial, C⟩)
      · simp only [if_pos h1, if_pos h2]
        rw [brF' h4]
        obtain ⟨v, hv, rfl⟩ := i_of h1.1 h1.2 (by omega)
        obtain ⟨u, hu, rfl⟩ := i_of h2.1 h2.2 (by omega)
        rw [cl_nI (by omega), cl_nI (by omega)]
        have z := a7_togL (Q := fun r A1 => aX8_together nv md (nI v) (nI u) (fun r2 A2 => r = r2 ∧ Corr nv md nb A2) A1) C hv hu q_fuel 0 (by omega) (by unfold q_fuel; omega)
        rw [show nI (sm (fun b => if rcd A v u b = 5 then 0 else 1) 0) = 0 from rfl, ← e0] at z
        rw [z]
        unfold aX8_together
        simp only [a8_isVoice d4 d1, brB, brB']
        rw [if_pos h1, if_pos h2, brF' h4]
        have z2 := a8_togL (Q := fun r2 A2 => nI (sm (fun b => if rcd A v u b = 5 then 0 else 1) nb) = r2 ∧ Corr nv md nb A2) C (v := v) (u := u) (by omega) (by omega) q_fuel 0 (by omega) (by unfold q_fuel; omega)
        rw [show nI (sm (fun b => if rcd A v u b = 5 then 0 else 1) 0) = 0 from rfl, ← e0] at z2
        rw [z2]
        exact ⟨rfl, C⟩
    · simp only [if_pos h1, if_neg h2]
      unfold aX8_together
      simp only [a8_isVoice d4 d1, brB, brB']
      rw [if_pos h1, if_neg h2]
      (first | exact ⟨rfl, C⟩ | exact ⟨trivial, C⟩)
  · simp only [if_neg h1]
    unfold aX8_together
    simp only [a8_isVoice d4 d1, brB, brB']
    rw [if_neg h1]
    (first | exact ⟨rfl, C⟩ | exact ⟨trivial, C⟩)
end CCON2
