/-! what is made new: addresses that held nothing -/
def Al (S0 : q_S) (L : List (Nat × q_C)) (S : q_S) : Prop := (∀ p ∈ L, S p.1 = some p.2) ∧ (L.map Prod.fst).Nodup ∧ (∀ p ∈ L, S0 p.1 = none) ∧ ∀ x, x ∉ L.map Prod.fst → S x = S0 x
section CAL
variable {S0 S : q_S} {L : List (Nat × q_C)}
theorem al_0 (S : q_S) : Al S [] S := ⟨fun p h => absurd h (by simp), by simp, fun p h => absurd h (by simp), fun _ _ => rfl⟩
theorem al_fresh (h : Al S0 L S) {q : Nat} (hq : S q = none) : q ∉ L.map Prod.fst := by
  intro c
  obtain ⟨p, h1, h2⟩ := List.mem_map.mp c
  have := h.1 p h1
  rw [h2, hq] at this
  cases this
theorem al_new (h : Al S0 L S) {q : Nat} (hq : S q = none) (x : q_C) : Al S0 ((q, x) :: L) (va_up S q (some x)) := by
  have hf := al_fresh h hq
  refine ⟨fun p hp => ?_, ?_, fun p hp => ?_, fun y hy => ?_⟩
  · rcases List.mem_cons.mp hp with e | e
    · subst e; exact va_up_self _ _ _
    · rw [va_up_ne _ _ (fun c => hf (by rw [← c]; exact List.mem_map.mpr ⟨p, e, rfl⟩))]
      exact h.1 p e
  · rw [List.map_cons, List.nodup_cons]
    exact ⟨hf, h.2.1⟩
  · rcases List.mem_cons.mp hp with e | e
    · subst e
      rw [← h.2.2.2 q hf]; exact hq
    · exact h.2.2.1 p e
  · rw [List.map_cons, List.mem_cons] at hy
    rw [va_up_ne _ _ (fun c => hy (Or.inl c))]
    exact h.2.2.2 y (fun c => hy (Or.inr c))
theorem al_put {L1 L2 : List (Nat × q_C)} {a : Nat} {y : q_C} (h : Al S0 (L1 ++ (a, y) :: L2) S) (x : q_C) : Al S0 (L1 ++ (a, x) :: L2) (va_up S a (some x)) := by
  have e : (L1 ++ (a, x) :: L2).map Prod.fst = (L1 ++ (a, y) :: L2).map Prod.fst := by simp
  have hn := h.2.1
  rw [List.map_append, List.map_cons, List.nodup_append] at hn
  obtain ⟨n1, n2, n3⟩ := hn
  rw [List.nodup_cons] at n2
  have k : ∀ p, p ∈ L1 ∨ p ∈ L2 → p.1 ≠ a := by
    intro p hp c
    rcases hp with e | e
    · exact n3 p.1 (List.mem_map.mpr ⟨p, e, rfl⟩) a (List.mem_cons.mpr (Or.inl rfl)) c
    · exact n2.1 (List.mem_map.mpr ⟨p, e, c⟩)
  have m : ∀ p, p ∈ L1 ∨ p ∈ L2 → p ∈ L1 ++ (a, y) :: L2 := by
    intro p hp
    rw [List.mem_append, List.mem_cons]
    rcases hp with e | e
    · exact Or.inl e
    · exact Or.inr (Or.inr e)
  have m2 : ∀ p, p ∈ L1 ++ (a, x) :: L2 → p = (a, x) ∨ (p ∈ L1 ∨ p ∈ L2) := by
    intro p hp
    rw [List.mem_append, List.mem_cons] at hp
    rcases hp with e | e | e
    · exact Or.inr (Or.inl e)
    · exact Or.inl e
    · exact Or.inr (Or.inr e)
  refine ⟨fun p hp => ?_, by rw [e]; exact h.2.1, fun p hp => ?_, fun z hz => ?_⟩
  · rcases m2 p hp with c | c
    · subst c; exact va_up_self _ _ _
    · rw [va_up_ne _ _ (k p c)]; exact h.1 p (m p c)
  · rcases m2 p hp with c | c
    · subst c
      exact h.2.2.1 (a, y) (by rw [List.mem_append, List.mem_cons]; exact Or.inr (Or.inl rfl))
    · exact h.2.2.1 p (m p c)
  · rw [e] at hz
    rw [va_up_ne _ _ (fun c => hz (by rw [c, List.map_append, List.mem_append, List.map_cons, List.mem_cons]; exact Or.inr (Or.inl rfl)))]
    exact h.2.2.2 z hz
theorem al_at {L1 L2 : List (Nat × q_C)} {a : Nat} {y : q_C} (h : Al S0 (L1 ++ (a, y) :: L2) S) : S a = some y := h.1 (a, y) (by rw [List.mem_append, List.mem_cons]; exact Or.inr (Or.inl rfl))
/-- a field written, of what stands first -/
theorem al_p {a ci k : Nat} {fs : List Value} {v : Value} {K : q_S → Prop} (h : Al S0 ((a, kO ci fs) :: L) S) (hk : k < fs.length) (hq : ∀ S', Al S0 ((a, kO ci (fs.set k v)) :: L) S' → K S') : q_pV ci k a v S K :=
  ⟨fs, al_at (L1 := []) h, hk, hq _ (al_put (L1 := []) h _)⟩
/-- a field written, of what stands behind L1 -/
theorem al_pp (L1 : List (Nat × q_C)) {a ci k : Nat} {fs : List Value} {v : Value} {K : q_S → Prop} (h : Al S0 (L1 ++ (a, kO ci fs) :: L) S) (hk : k < fs.length) (hq : ∀ S', Al S0 (L1 ++ (a, kO ci (fs.set k v)) :: L) S' → K S') : q_pV ci k a v S K :=
  ⟨fs, al_at h, hk, hq _ (al_put h _)⟩
theorem al_sw {p q : Nat × q_C} (h : Al S0 (p :: q :: L) S) : Al S0 (q :: p :: L) S := by
  obtain ⟨h1, h2, h3, h4⟩ := h
  have m : ∀ r, r ∈ q :: p :: L → r ∈ p :: q :: L := fun r hr => by
    simp only [List.mem_cons] at hr ⊢
    rcases hr with e | e | e
    · exact Or.inr (Or.inl e)
    · exact Or.inl e
    · exact Or.inr (Or.inr e)
  refine ⟨fun r hr => h1 r (m r hr), ?_, fun r hr => h3 r (m r hr), fun x hx => h4 x (fun c => hx ?_)⟩
  · simp only [List.map_cons, List.nodup_cons, List.mem_cons, not_or] at h2 ⊢
    exact ⟨⟨fun c => h2.1.1 c.symm, h2.2.1⟩, h2.1.2, h2.2.2⟩
  · simp only [List.map_cons, List.mem_cons] at c ⊢
    rcases c with e | e | e
    · exact Or.inr (Or.inl e)
    · exact Or.inl e
    · exact Or.inr (Or.inr e)
/-- an array made, and set into a field of what stands first -/
theorem al_f {a ci k : Nat} {fs : List Value} {x : q_C} {K : q_S → Prop} (h : Al S0 ((a, kO ci fs) :: L) S) (hk : k < fs.length) (hq : ∀ q S', Al S0 ((a, kO ci (fs.set k (.ref q))) :: (q, x) :: L) S' → K S') : q_nC x S (fun q S1 => q_pV ci k a (.ref q) S1 K) := fun q h0 =>
  al_p (al_sw (al_new h h0 x)) hk (fun S' h' => hq q S' h')
theorem n_X3 {a0 : Nat} {Q : q_S → Prop} (h : Al S0 ((a0, kO 2 [.null, .null]) :: L) S) (hq : ∀ qa qb S', Al S0 ((a0, kO 2 [.ref qa, .ref qb]) :: (qb, kI 1280 (fun _ => 0)) :: (qa, kI 40 (fun _ => 0)) :: L) S' → Q S') : wX3_init a0 Q S := by
  unfold wX3_init
  refine al_f h (Nat.le_of_ble_eq_true rfl) (fun qa S1 h1 => ?_)
  refine al_f h1 (Nat.le_of_ble_eq_true rfl) (fun qb S2 h2 => ?_)
  exact hq qa qb S2 h2
theorem n_X1 {a0 : Nat} {Q : q_S → Prop} (h : Al S0 ((a0, kO 0 [.null, .null, .int 0, .int 0]) :: L) S) (hq : ∀ qa qb S', Al S0 ((a0, kO 0 [.ref qa, .ref qb, .int 0, .int 0]) :: (qb, kI 160 (fun _ => 0)) :: (qa, kI 41 (fun _ => 0)) :: L) S' → Q S') : wX1_init a0 Q S := by
  unfold wX1_init
  refine al_f h (Nat.le_of_ble_eq_true rfl) (fun qa S1 h1 => ?_)
  refine al_f h1 (Nat.le_of_ble_eq_true rfl) (fun qb S2 h2 => ?_)
  exact hq qa qb S2 h2
theorem n_X4 {a0 : Nat} {Q : q_S → Prop} (h : Al S0 ((a0, kO 3 [.null, .null, .int 0]) :: L) S) (hq : ∀ q1 q2 qa qb S', Al S0 ((q2, kO 2 [.ref qa, .ref qb]) :: (qb, kI 1280 (fun _ => 0)) :: (qa, kI 40 (fun _ => 0)) :: (a0, kO 3 [.ref q1, .ref q2, .int 0]) :: (q1, kI 280 (fun _ => 0)) :: L) S' → Q S') : wX4_init a0 Q S := by
  unfold wX4_init
  refine al_f h (Nat.le_of_ble_eq_true rfl) (fun q1 S1 h1 => ?_)
  intro q2 h0
  refine n_X3 (al_new h1 h0 _) (fun qa qb S2 h2 => ?_)
  refine al_pp [_, _, _] h2 (Nat.le_of_ble_eq_true rfl) (fun S3 h3 => ?_)
  exact hq q1 q2 qa qb S3 h3
theorem n_X6 {a0 : Nat} {x : Int32} {Q : q_S → Prop} (h : Al S0 ((a0, kO 5 [.int 0, .null, .int 0, .int 0, .null]) :: L) S) (hq : ∀ q1 qa qb S', Al S0 ((q1, kO 2 [.ref qa, .ref qb]) :: (qb, kI 1280 (fun _ => 0)) :: (qa, kI 40 (fun _ => 0)) :: (a0, kO 5 [.int x, .ref q1, .int 0, .int 0, .null]) :: L) S' → Q S') : wX6_init a0 x Q S := by
  unfold wX6_init
  intro q1 h0
  refine n_X3 (al_new h h0 _) (fun qa qb S2 h2 => ?_)
  refine al_pp [_, _, _] h2 (Nat.le_of_ble_eq_true rfl) (fun S3 h3 => ?_)
  refine al_pp [_, _, _] h3 (Nat.le_of_ble_eq_true rfl) (fun S4 h4 => ?_)
  exact hq q1 qa qb S4 h4
theorem n_fill {a : Nat} {Q : q_S → Prop} {L1 L2 : List (Nat × q_C)} (hq : ∀ f S', (∀ k, k < 200 → f k = -100) → Al S0 (L1 ++ (a, kI 200 f) :: L2) S' → Q S') : ∀ (F k : Nat) (f : Nat → Int32) (S : q_S), k ≤ 200 → 200 < F + k → (∀ i, i < k → f i = -100) → Al S0 (L1 ++ (a, kI 200 f) :: L2) S → lJ7_fill_53178_b5 Q F a (-100 : Int32) (nI k) (nI 200) S := by
  intro F
  induction F with
  | zero => intro k f S h1 h2; exact absurd h2 (by omega)
  | succ F ih =>
    intro k f S h1 h2 hf h
    show wJ7_fill_53178_b5 Q (lJ7_fill_53178_b5 Q F) a (-100 : Int32) (nI k) (nI 200) S
    unfold wJ7_fill_53178_b5
    rw [le_n (by omega) (by omega)]
    by_cases g : 200 ≤ k
    · rw [brT g]
      exact hq f S (fun i hi => hf i (by omega)) h
    · rw [brF g]
      refine ⟨200, f, al_at h, in_nI (by omega) (by omega), ?_⟩
      rw [cl_nI (by omega), e1, nI_add]
      refine ih (k + 1) _ _ (by omega) (by omega) (fun i hi => ?_) (al_put h _)
      unfold upd
      by_cases e : i = k
      · rw [if_pos e]
      · rw [if_neg e]; exact hf i (by omega)
theorem n_X2 {a0 : Nat} {Q : q_S → Prop} (h : Al S0 ((a0, kO 1 [.null]) :: L) S) (hq : ∀ qh f S', (∀ k, k < 200 → f k = -100) → Al S0 ((a0, kO 1 [.ref qh]) :: (qh, kI 200 f) :: L) S' → Q S') : wX2_init a0 Q S := by
  unfold wX2_init
  refine al_f h (Nat.le_of_ble_eq_true rfl) (fun qh S1 h1 => ?_)
  refine ⟨_, qh, al_at (L1 := []) h1, rfl, ?_⟩
  unfold wJ7_fill_53178
  refine ⟨200, _, al_at (L1 := [_]) h1, ?_⟩
  exact n_fill (L1 := [_]) (fun f S' hf h' => hq qh f S' hf h') q_fuel 0 _ _ (by omega) (by unfold q_fuel; omega) (fun i hi => absurd hi (Nat.not_lt_zero i)) h1
theorem n_X5 {a0 : Nat} {Q : q_S → Prop} (h : Al S0 ((a0, kO 4 [.null, .null, .int 0, .int 0, .int 0]) :: L) S) (hq : ∀ qv qm qh f S', (∀ k, k < 200 → f k = -100) → Al S0 ((qm, kO 1 [.ref qh]) :: (qh, kI 200 f) :: (a0, kO 4 [.ref qv, .ref qm, .int 0, .int 0, .int 8]) :: (qv, kV 6 (fun _ => none)) :: L) S' → Q S') : wX5_init a0 Q S := by
  unfold wX5_init
  refine al_f h (Nat.le_of_ble_eq_true rfl) (fun qv S1 h1 => ?_)
  intro qm h0
  refine n_X2 (al_new h1 h0 _) (fun qh f S2 hf h2 => ?_)
  refine al_pp [_, _] h2 (Nat.le_of_ble_eq_true rfl) (fun S3 h3 => ?_)
  refine al_pp [_, _] h3 (Nat.le_of_ble_eq_true rfl) (fun S4 h4 => ?_)
  exact hq qv qm qh f S4 hf h4
end CAL
