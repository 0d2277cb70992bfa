/-! The pool as a partial map from addresses to cells; rows of the kit over it. -/
abbrev q_C : Type := (Nat × (Nat → Int32)) ⊕ ((Nat × (Nat → Int32)) ⊕ ((Nat × (Nat → Option Nat)) ⊕ (Nat × List Value)))
abbrev q_S : Type := Nat → Option q_C
abbrev q_A : Type := ClassId × ClassId × ClassId
abbrev kI (n : Nat) (f : Nat → Int32) : q_C := .inl (n, f)
abbrev kZ (n : Nat) (f : Nat → Int32) : q_C := .inr (.inl (n, f))
abbrev kV (n : Nat) (f : Nat → Option Nat) : q_C := .inr (.inr (.inl (n, f)))
abbrev kO (ci : Nat) (fs : List Value) : q_C := .inr (.inr (.inr (ci, fs)))
def q_E (g : q_A) (o : Option q_C) : va_E := match o with
  | some (.inl x) => .inl (g.1, x.1, .inl x.2)
  | some (.inr (.inl x)) => .inl (g.2.1, x.1, .inl x.2)
  | some (.inr (.inr (.inl x))) => .inl (g.2.2, x.1, .inr (.inr (.inr (.inr x.2))))
  | some (.inr (.inr (.inr o))) => .inr o
  | none => .inr (0, [])
def q_F (g : q_A) (S : q_S) : Nat → va_E := fun a => q_E g (S a)
abbrev q_T (g : q_A) : List (ClassId × FieldType) := [(g.1, .int), (g.2.1, .boolean), (g.2.2, .object RX6)]
def q_nest : List Cond := [.fieldLinkNest RX0 69 "PartPages$Score" "marks" "LPartPages$Marks;" RX7, .fieldLinkNest RX7 90 "PartPages$Score" "marks" "LPartPages$Marks;" RX7, .fieldLinkNest RX7 163 "PartPages$Score" "voiceCount" "I" RX7, .fieldLinkNest RX0 26 "PartPages$Score" "barCount" "I" RX7, .fieldLinkNest RX7 160 "PartPages$Score" "barCount" "I" RX7, .fieldLinkNest RX7 106 "PartPages$Score" "cueAfter" "I" RX7, .fieldLinkNest RX7 182 "PartPages$Layout" "pageCount" "I" RX7, .fieldLinkNest RX0 86 "PartPages$Part" "notes" "LPartPages$NoteTable;" RX7, .fieldLinkNest RX7 132 "PartPages$Part" "notes" "LPartPages$NoteTable;" RX7, .fieldLinkNest RX1 33 "PartPages$Part" "rowCount" "I" RX7, .fieldLinkNest RX7 118 "PartPages$Part" "rowCount" "I" RX7, .fieldLinkNest RX0 62 "PartPages$Voice" "number" "I" RX7, .fieldLinkNest RX0 14 "PartPages$Voice" "notes" "LPartPages$NoteTable;" RX7, .fieldLinkNest RX7 64 "PartPages$Voice" "notes" "LPartPages$NoteTable;" RX7, .fieldLinkNest RX5 45 "PartPages$Voice" "notes" "LPartPages$NoteTable;" RX7, .fieldLinkNest RX7 100 "PartPages$Voice" "fifths" "I" RX7, .fieldLinkNest RX7 103 "PartPages$Voice" "octaves" "I" RX7, .fieldLinkNest RX5 38 "PartPages$Voice" "part" "LPartPages$Part;" RX7, .fieldLinkNest RX7 109 "PartPages$Voice" "part" "LPartPages$Part;" RX7, .methodLinkNest RX7 9 yX5_init RX7, .methodLinkNest RX7 18 yX1_init RX7, .methodLinkNest RX7 28 yX4_init RX7, .methodLinkNest RX4 17 yX3_init RX7, .methodLinkNest RX6 11 yX3_init RX7]
def q_nw (w : Cond) : Bool := match w with
  | .fieldLinkNest .. => true
  | .methodLinkNest .. => true
  | _ => false
theorem q_nest_nw : ∀ w ∈ q_nest, q_nw w = true := by decide +kernel
def q_N (U : State) : Prop := (∀ w ∈ q_nest, va_Nw w U) ∧ va_AO RX6 U
theorem q_N.warm {s U : State} (hW : s.WarmedH U.vm) (h : q_N s) : q_N U := by
  refine ⟨fun w hw => ?_, va_AO.moved hW.alike h.2⟩
  have h1 := q_nest_nw w hw
  have h2 := h.1 w hw
  cases w <;> first | exact va_Nw.warmF hW h2 | exact va_Nw.warmM hW h2 | exact absurd h1 Bool.false_ne_true
theorem q_N.same {s U : State} (hv : s.vm = U.vm) (h : q_N s) : q_N U := by
  refine ⟨fun w hw => ?_, va_AO.moved (by rw [hv]; exact Vm.Alike.refl U.vm) h.2⟩
  have h1 := q_nest_nw w hw
  have h2 := h.1 w hw
  cases w <;> first | exact va_Nw.same rfl hv h2 | exact absurd h1 Bool.false_ne_true
def q_H (D : va_G) (g : q_A) (A : Nat → Prop) (S : q_S) (H : Heap) : Prop := ∃ L : List Nat, (∀ a, a ∈ L ↔ S a ≠ none) ∧ va_P D vwCl (va_pl L (q_F g S)) H ∧ va_D A (va_pl L (q_F g S))
def q_AS (S : q_S) (sz : Nat) : Nat → Prop := fun q => S q ≠ none ∨ sz ≤ q
def q_P (D : va_G) (g : q_A) (A : Nat → Prop) (H0 : Heap) (S : q_S) (H : Heap) (locs : List Loc) : Prop := q_H D g A S H ∧ va_S A H0 H locs
def q_X (p : Program) (s : State) (m : MethodId) (args : Array Value) (meth : Method) (c : Code) (cc : ByteArray) (nL : Nat) (own : String) (Ts : List Cond) (D : va_G) (g : q_A) (A : Nat → Prop) : Prop :=
  p.tables.exec = Jvm.exec ∧ c.code = cc ∧ c.maxLocals = nL ∧ s.vm.findClass own = some m.cls ∧ (∀ w ∈ Ts, w.before args s = true) ∧ meth.locks = false ∧ va_K D vwCl (q_T g) s ∧ q_N s ∧ (∀ q, s.heap.size ≤ q → A q)
/-- an object of that class -/
def q_is (ci : Nat) (a : Nat) (S : q_S) : Prop := ∃ fs, S a = some (kO ci fs)
theorem q_up (g : q_A) (S : q_S) (a : Nat) (o : Option q_C) : va_up (q_F g S) a (q_E g o) = q_F g (va_up S a o) := by
  funext b
  by_cases hb : b = a
  · subst hb; simp [q_F, va_up]
  · simp [q_F, va_up, hb]
theorem q_look {D : va_G} {g : q_A} {A : Nat → Prop} {S : q_S} {H : Heap} {a : Nat} {x : q_C} (h : q_H D g A S H) (hS : S a = some x) : ∃ (L : List Nat) (k : Nat), (∀ b, b ∈ L ↔ S b ≠ none) ∧ va_P D vwCl (va_pl L (q_F g S)) H ∧ va_D A (va_pl L (q_F g S)) ∧ a ∈ L ∧ (va_pl L (q_F g S))[k]? = some (a, q_F g S a) ∧ (va_pl L (q_F g S))[k]? = some (a, q_E g (some x)) := by
  obtain ⟨L, hL, hP, hD⟩ := h
  have ha : a ∈ L := (hL a).mpr (by rw [hS]; simp)
  obtain ⟨k, hk⟩ := va_pl_get (X := []) (f := q_F g S) ha
  have hk : (va_pl L (q_F g S))[k]? = some (a, q_F g S a) := hk
  refine ⟨L, k, hL, hP, hD, ha, hk, ?_⟩
  rw [hk]
  show some (a, q_E g (S a)) = _
  rw [hS]
theorem q_setW {g : q_A} {A : Nat → Prop} {S : q_S} {L : List Nat} {a k : Nat} {x : q_C} (hD : va_D A (va_pl L (q_F g S))) (ha : a ∈ L) (hk : (va_pl L (q_F g S))[k]? = some (a, q_F g S a)) : (va_pl L (q_F g S)).set k (a, q_E g (some x)) = va_pl L (q_F g (va_up S a (some x))) := by
  have h := va_pl_set (X := []) (e := q_E g (some x)) hD ha hk
  rw [q_up] at h
  exact h
theorem q_setL {S : q_S} {L : List Nat} {a : Nat} {x : q_C} (hL : ∀ b, b ∈ L ↔ S b ≠ none) (ha : a ∈ L) : ∀ b, b ∈ L ↔ va_up S a (some x) b ≠ none := by
  intro b
  by_cases hb : b = a
  · subst hb; simp [va_up, ha]
  · simp only [va_up, hb, if_false]; exact hL b
theorem q_putH {D : va_G} {g : q_A} {A : Nat → Prop} {S : q_S} {H1 : Heap} {L : List Nat} {a k : Nat} {x : q_C} (hL : ∀ b, b ∈ L ↔ S b ≠ none) (hD : va_D A (va_pl L (q_F g S))) (ha : a ∈ L) (hk : (va_pl L (q_F g S))[k]? = some (a, q_F g S a)) (hP1 : va_P D vwCl ((va_pl L (q_F g S)).set k (a, q_E g (some x))) H1) (hD1 : va_D A ((va_pl L (q_F g S)).set k (a, q_E g (some x)))) : q_H D g A (va_up S a (some x)) H1 := by
  rw [q_setW hD ha hk] at hP1 hD1
  exact ⟨L, q_setL hL ha, hP1, hD1⟩
theorem q_pushH {D : va_G} {g : q_A} {A : Nat → Prop} {S : q_S} {H1 : Heap} {L : List Nat} {q : Nat} {x : q_C} (hL : ∀ b, b ∈ L ↔ S b ≠ none) (hP1 : va_P D vwCl (va_pl L (q_F g S) ++ [(q, q_E g (some x))]) H1) (hD1 : va_D A (va_pl L (q_F g S) ++ [(q, q_E g (some x))])) : S q = none ∧ q_H D g A (va_up S q (some x)) H1 := by
  have hq : q ∉ L := by
    intro hq
    obtain ⟨k, hk⟩ := va_pl_get (X := []) (f := q_F g S) hq
    have hk : (va_pl L (q_F g S))[k]? = some (q, q_F g S q) := hk
    have hlt := (List.getElem?_eq_some_iff.mp hk).1
    have h1 : (va_pl L (q_F g S) ++ [(q, q_E g (some x))])[k]? = some (q, q_F g S q) := by rw [List.getElem?_append_left hlt]; exact hk
    have h2 : (va_pl L (q_F g S) ++ [(q, q_E g (some x))])[(va_pl L (q_F g S)).length]? = some (q, q_E g (some x)) := by rw [List.getElem?_append_right (Nat.le_refl _)]; simp
    have := hD1.1 _ _ _ _ h1 h2 rfl
    omega
  rw [va_pl_push hq, q_up] at hP1 hD1
  have hn : S q = none := by
    cases h : S q with
    | none => rfl
    | some y => exact absurd ((hL q).mpr (by rw [h]; simp)) hq
  refine ⟨hn, L ++ [q], fun b => ?_, hP1, hD1⟩
  by_cases hb : b = q
  · subst hb; simp [va_up]
  · simp only [va_up, hb, if_false, List.mem_append, List.mem_singleton, or_false]; exact hL b
theorem q_H.mono {D : va_G} {g : q_A} {A A' : Nat → Prop} {S : q_S} {H : Heap} (h : q_H D g A S H) (hA : ∀ q, A q → A' q) : q_H D g A' S H := by
  obtain ⟨L, hL, hP, hD⟩ := h
  exact ⟨L, hL, hP, hD.1, fun k q hk => hA _ (hD.2 k q hk)⟩
theorem q_H.inA {D : va_G} {g : q_A} {A : Nat → Prop} {S : q_S} {H : Heap} (h : q_H D g A S H) {a : Nat} (ha : S a ≠ none) : A a := by
  obtain ⟨L, hL, hP, hD⟩ := h
  obtain ⟨k, hk⟩ := va_pl_get (X := []) (f := q_F g S) ((hL a).mpr ha)
  exact hD.2 k _ hk
section QR
variable {p : Program} {l : Launch} {e : Env} {R : Room} {s : State} {m : MethodId} {args : Array Value} {below : List Frame} {meth : Method} {c : Code} {H : Heap} {locs : List Loc} {cells slots : Nat} {Q : State → Prop}
variable {cc : ByteArray} {nL pc : Nat} {ls : Array Slot} {rest : List Value} {own : String} {Ts : List Cond} {D : va_G} {g : q_A} {A : Nat → Prop} {S : q_S} {a : Nat}
theorem q_get (C : q_X p s m args meth c cc nL own Ts D g A) (hp : q_P D g A s.heap S H locs) {ci k : Nat} {Cn : String} {T : u_T} {N index : Nat} {fs : List Value} {v : Value} (hS : S a = some (kO ci fs)) (hv : fs[k]? = some v) (hc : vwCl[ci]? = some (Cn, T, N)) (hin : ∀ w ∈ u_ws Cn T N, w ∈ Ts) (hk : k < N) (hl : Cond.fieldLink own index (T k).1 (T k).2.1 (T k).2.2.1 ∈ Ts) (hdg : decode cc pc = .ok (.getfield index, 3))
    (kk : W p l e R s m args below meth c H locs cells slots Q (F0 m (pc + 3) ls (v :: rest))) : W p l e R s m args below meth c H locs cells slots Q (F0 m pc ls (.ref a :: rest)) := by
  obtain ⟨hx, hb, -, hown, hts, -, hK, -, -⟩ := C
  obtain ⟨L, i, hL, hP, hD, ha, -, he⟩ := q_look hp.1 hS
  exact va_get hx hb hts hin hown hK hP i he hc k hk (hts _ hl) (fun _ h => h) hv hdg kk
theorem q_getN (C : q_X p s m args meth c cc nL own Ts D g A) (hp : q_P D g A s.heap S H locs) {ci k : Nat} {Cn : String} {T : u_T} {N index : Nat} {fs : List Value} {v : Value} (hS : S a = some (kO ci fs)) (hv : fs[k]? = some v) (hc : vwCl[ci]? = some (Cn, T, N)) (hin : ∀ w ∈ u_ws Cn T N, w ∈ Ts) (hk : k < N) (hl : Cond.fieldLinkNest own index (T k).1 (T k).2.1 (T k).2.2.1 RX7 ∈ q_nest) (hdg : decode cc pc = .ok (.getfield index, 3))
    (kk : W p l e R s m args below meth c H locs cells slots Q (F0 m (pc + 3) ls (v :: rest))) : W p l e R s m args below meth c H locs cells slots Q (F0 m pc ls (.ref a :: rest)) := by
  obtain ⟨hx, hb, -, hown, hts, -, hK, hN, -⟩ := C
  obtain ⟨L, i, hL, hP, hD, ha, -, he⟩ := q_look hp.1 hS
  exact va_getN hx hb hts hin hown hK hP i he hc k hk (va_Nw.use rfl (hN.1 _ hl)) (fun _ h => h) hv hdg kk
theorem q_put (C : q_X p s m args meth c cc nL own Ts D g A) (hp : q_P D g A s.heap S H locs) {ci k : Nat} {Cn : String} {T : u_T} {N index : Nat} {fs : List Value} {ty : FieldType} {v : Value} (ty0 : Nat → FieldType) (hty : ∀ k, k < N → parseFieldDescriptor (T k).2.2.1 = some (ty0 k)) (hnm : ∀ a, a < N → ∀ b, b < N → a ≠ b → (T a).2.1 ≠ (T b).2.1) (hS : S a = some (kO ci fs)) (hlen : k < fs.length) (hc : vwCl[ci]? = some (Cn, T, N)) (hin : ∀ w ∈ u_ws Cn T N, w ∈ Ts) (hk : k < N) (hl : Cond.fieldLink own index (T k).1 (T k).2.1 (T k).2.2.1 ∈ Ts) (hfin : (T k).2.2.2 = false) (hd : ty0 k = ty) (hn : narrow ty v = v) (hfit : fits ty v = true) (hdg : decode cc pc = .ok (.putfield index, 3))
    (kk : ∀ (H1 : Heap) (locs1 : List Loc), q_P D g A s.heap (va_up S a (some (kO ci (fs.set k v)))) H1 locs1 → W p l e R s m args below meth c H1 locs1 cells slots Q (F0 m (pc + 3) ls rest)) : W p l e R s m args below meth c H locs cells slots Q (F0 m pc ls (v :: .ref a :: rest)) := by
  obtain ⟨hx, hb, -, hown, hts, -, hK, -, -⟩ := C
  obtain ⟨L, i, hL, hP, hD, ha, hk0, he⟩ := q_look hp.1 hS
  subst hd
  exact va_put hx hb hts hin ty0 hty hnm hown hK hP hD hp.2 i he hc k hk (hts _ hl) (fun _ h => h) hfin (hty k hk) hn hfit hlen hdg (fun H1 locs1 h1 h2 h3 => kk H1 locs1 ⟨q_putH hL hD ha hk0 h1 h2, h3⟩)
theorem q_putN (C : q_X p s m args meth c cc nL own Ts D g A) (hp : q_P D g A s.heap S H locs) {ci k : Nat} {Cn : String} {T : u_T} {N index : Nat} {fs : List Value} {ty : FieldType} {v : Value} (ty0 : Nat → FieldType) (hty : ∀ k, k < N → parseFieldDescriptor (T k).2.2.1 = some (ty0 k)) (hnm : ∀ a, a < N → ∀ b, b < N → a ≠ b → (T a).2.1 ≠ (T b).2.1) (hS : S a = some (kO ci fs)) (hlen : k < fs.length) (hc : vwCl[ci]? = some (Cn, T, N)) (hin : ∀ w ∈ u_ws Cn T N, w ∈ Ts) (hk : k < N) (hl : Cond.fieldLinkNest own index (T k).1 (T k).2.1 (T k).2.2.1 RX7 ∈ q_nest) (hfin : (T k).2.2.2 = false) (hd : ty0 k = ty) (hn : narrow ty v = v) (hfit : fits ty v = true) (hdg : decode cc pc = .ok (.putfield index, 3))
    (kk : ∀ (H1 : Heap) (locs1 : List Loc), q_P D g A s.heap (va_up S a (some (kO ci (fs.set k v)))) H1 locs1 → W p l e R s m args below meth c H1 locs1 cells slots Q (F0 m (pc + 3) ls rest)) : W p l e R s m args below meth c H locs cells slots Q (F0 m pc ls (v :: .ref a :: rest)) := by
  obtain ⟨hx, hb, -, hown, hts, -, hK, hN, -⟩ := C
  obtain ⟨L, i, hL, hP, hD, ha, hk0, he⟩ := q_look hp.1 hS
  subst hd
  exact va_putN hx hb hts hin ty0 hty hnm hown hK hP hD hp.2 i he hc k hk (va_Nw.use rfl (hN.1 _ hl)) (fun _ h => h) hfin (hty k hk) hn hfit hlen hdg (fun H1 locs1 h1 h2 h3 => kk H1 locs1 ⟨q_putH hL hD ha hk0 h1 h2, h3⟩)
theorem q_putF (C : q_X p s m args meth c cc nL own Ts D g A) (hp : q_P D g A s.heap S H locs) {ci k : Nat} {Cn : String} {T : u_T} {N index : Nat} {fs : List Value} {ty : FieldType} {v : Value} (ty0 : Nat → FieldType) (hty : ∀ k, k < N → parseFieldDescriptor (T k).2.2.1 = some (ty0 k)) (hnm : ∀ a, a < N → ∀ b, b < N → a ≠ b → (T a).2.1 ≠ (T b).2.1) (hS : S a = some (kO ci fs)) (hlen : k < fs.length) (hc : vwCl[ci]? = some (Cn, T, N)) (hin : ∀ w ∈ u_ws Cn T N, w ∈ Ts) (hk : k < N) (hl : Cond.fieldLink own index (T k).1 (T k).2.1 (T k).2.2.1 ∈ Ts) (hfin : (T k).2.2.2 = true) (hin2 : meth.name = "<init>") (hdecl : (T k).1 = own) (hd : ty0 k = ty) (hn : narrow ty v = v) (hfit : fits ty v = true) (hdg : decode cc pc = .ok (.putfield index, 3))
    (kk : ∀ (H1 : Heap) (locs1 : List Loc), q_P D g A s.heap (va_up S a (some (kO ci (fs.set k v)))) H1 locs1 → W p l e R s m args below meth c H1 locs1 cells slots Q (F0 m (pc + 3) ls rest)) : W p l e R s m args below meth c H locs cells slots Q (F0 m pc ls (v :: .ref a :: rest)) := by
  obtain ⟨hx, hb, -, hown, hts, -, hK, -, -⟩ := C
  obtain ⟨L, i, hL, hP, hD, ha, hk0, he⟩ := q_look hp.1 hS
  subst hd
  exact va_putF hx hb hts hin ty0 hty hnm hown hK hP hD hp.2 i he hc k hk (hts _ hl) (fun _ h => h) hfin hin2 hdecl (hty k hk) hn hfit hlen hdg (fun H1 locs1 h1 h2 h3 => kk H1 locs1 ⟨q_putH hL hD ha hk0 h1 h2, h3⟩)
theorem q_iald (C : q_X p s m args meth c cc nL own Ts D g A) (hp : q_P D g A s.heap S H locs) {n : Nat} {f : Nat → Int32} {i : Int32} (hS : S a = some (kI n f)) (hin : vp_in i n) (hdg : decode cc pc = .ok (.iaload, 1))
    (kk : W p l e R s m args below meth c H locs cells slots Q (F0 m (pc + 1) ls (.int (f i.toNatClampNeg) :: rest))) : W p l e R s m args below meth c H locs cells slots Q (F0 m pc ls (.int i :: .ref a :: rest)) := by
  obtain ⟨hx, hb, -, hown, hts, -, hK, -, -⟩ := C
  obtain ⟨L, k, hL, hP, hD, ha, hk0, he⟩ := q_look hp.1 hS
  exact va_iald hx hb hK hP k 0 he rfl hin hdg kk
theorem q_zald (C : q_X p s m args meth c cc nL own Ts D g A) (hp : q_P D g A s.heap S H locs) {n : Nat} {f : Nat → Int32} {i : Int32} (hS : S a = some (kZ n f)) (hin : vp_in i n) (hdg : decode cc pc = .ok (.baload, 1))
    (kk : W p l e R s m args below meth c H locs cells slots Q (F0 m (pc + 1) ls (.int (f i.toNatClampNeg) :: rest))) : W p l e R s m args below meth c H locs cells slots Q (F0 m pc ls (.int i :: .ref a :: rest)) := by
  obtain ⟨hx, hb, -, hown, hts, -, hK, -, -⟩ := C
  obtain ⟨L, k, hL, hP, hD, ha, hk0, he⟩ := q_look hp.1 hS
  exact va_zald hx hb hK hP k 1 he rfl hin hdg kk
theorem q_aald (C : q_X p s m args meth c cc nL own Ts D g A) (hp : q_P D g A s.heap S H locs) {n : Nat} {f : Nat → Option Nat} {i : Int32} (hS : S a = some (kV n f)) (hin : vp_in i n) (hdg : decode cc pc = .ok (.aaload, 1))
    (kk : W p l e R s m args below meth c H locs cells slots Q (F0 m (pc + 1) ls (va_rf (f i.toNatClampNeg) :: rest))) : W p l e R s m args below meth c H locs cells slots Q (F0 m pc ls (.int i :: .ref a :: rest)) := by
  obtain ⟨hx, hb, -, hown, hts, -, hK, -, -⟩ := C
  obtain ⟨L, k, hL, hP, hD, ha, hk0, he⟩ := q_look hp.1 hS
  exact va_aldq hx hb hK hP k 2 he rfl hin hdg kk
theorem q_iast (C : q_X p s m args meth c cc nL own Ts D g A) (hp : q_P D g A s.heap S H locs) {n : Nat} {f : Nat → Int32} {i x : Int32} (hS : S a = some (kI n f)) (hin : vp_in i n) (hdg : decode cc pc = .ok (.iastore, 1))
    (kk : ∀ (H1 : Heap) (locs1 : List Loc), q_P D g A s.heap (va_up S a (some (kI n (upd f i.toNatClampNeg x)))) H1 locs1 → W p l e R s m args below meth c H1 locs1 cells slots Q (F0 m (pc + 1) ls rest)) : W p l e R s m args below meth c H locs cells slots Q (F0 m pc ls (.int x :: .int i :: .ref a :: rest)) := by
  obtain ⟨hx, hb, -, hown, hts, -, hK, -, -⟩ := C
  obtain ⟨L, k, hL, hP, hD, ha, hk0, he⟩ := q_look hp.1 hS
  exact va_iast hx hb hK hP hD hp.2 k 0 he rfl hin hdg (fun H1 locs1 h1 h2 h3 => kk H1 locs1 ⟨q_putH (x := kI n (upd f i.toNatClampNeg x)) hL hD ha hk0 h1 h2, h3⟩)
theorem q_zast (C : q_X p s m args meth c cc nL own Ts D g A) (hp : q_P D g A s.heap S H locs) {n : Nat} {f : Nat → Int32} {i x : Int32} (hS : S a = some (kZ n f)) (hin : vp_in i n) (hdg : decode cc pc = .ok (.bastore, 1))
    (kk : ∀ (H1 : Heap) (locs1 : List Loc), q_P D g A s.heap (va_up S a (some (kZ n (upd f i.toNatClampNeg (vp_nar .boolean x))))) H1 locs1 → W p l e R s m args below meth c H1 locs1 cells slots Q (F0 m (pc + 1) ls rest)) : W p l e R s m args below meth c H locs cells slots Q (F0 m pc ls (.int x :: .int i :: .ref a :: rest)) := by
  obtain ⟨hx, hb, -, hown, hts, -, hK, -, -⟩ := C
  obtain ⟨L, k, hL, hP, hD, ha, hk0, he⟩ := q_look hp.1 hS
  exact va_zast hx hb hK hP hD hp.2 k 1 he rfl hin hdg (fun H1 locs1 h1 h2 h3 => kk H1 locs1 ⟨q_putH (x := kZ n (upd f i.toNatClampNeg (vp_nar .boolean x))) hL hD ha hk0 h1 h2, h3⟩)
theorem q_aast (C : q_X p s m args meth c cc nL own Ts D g A) (hp : q_P D g A s.heap S H locs) {n v : Nat} {f : Nat → Option Nat} {i : Int32} {vs : List Value} (hS : S a = some (kV n f)) (hV : S v = some (kO 5 vs)) (hin : vp_in i n) (hdg : decode cc pc = .ok (.aastore, 1))
    (kk : ∀ (H1 : Heap) (locs1 : List Loc), q_P D g A s.heap (va_up S a (some (kV n (va_up f i.toNatClampNeg (some v))))) H1 locs1 → W p l e R s m args below meth c H1 locs1 cells slots Q (F0 m (pc + 1) ls rest)) : W p l e R s m args below meth c H locs cells slots Q (F0 m pc ls (.ref v :: .int i :: .ref a :: rest)) := by
  obtain ⟨hx, hb, -, hown, hts, -, hK, -, -⟩ := C
  obtain ⟨⟨L, hL, hP, hD⟩, hSv⟩ := hp
  have ha : a ∈ L := (hL a).mpr (by rw [hS]; simp)
  have hv : v ∈ L := (hL v).mpr (by rw [hV]; simp)
  obtain ⟨k, hk⟩ := va_pl_get (X := []) (f := q_F g S) ha
  obtain ⟨j, hj⟩ := va_pl_get (X := []) (f := q_F g S) hv
  have hk : (va_pl L (q_F g S))[k]? = some (a, q_F g S a) := hk
  have hj : (va_pl L (q_F g S))[j]? = some (v, q_F g S v) := hj
  have he : (va_pl L (q_F g S))[k]? = some (a, q_E g (some (kV n f))) := by rw [hk]; show some (a, q_E g (S a)) = _; rw [hS]
  have hf : (va_pl L (q_F g S))[j]? = some (v, q_E g (some (kO 5 vs))) := by rw [hj]; show some (v, q_E g (S v)) = _; rw [hV]
  exact va_astq hx hb hK hP hD hSv k 2 j 5 he rfl hf rfl hin hdg (fun H1 locs1 h1 h2 h3 => kk H1 locs1 ⟨q_putH (x := kV n (va_up f i.toNatClampNeg (some v))) hL hD ha hk h1 h2, h3⟩)
theorem q_alen (C : q_X p s m args meth c cc nL own Ts D g A) (hp : q_P D g A s.heap S H locs) {n : Nat} {f : Nat → Int32} (hS : S a = some (kI n f)) (hdg : decode cc pc = .ok (.arraylength, 1))
    (kk : W p l e R s m args below meth c H locs cells slots Q (F0 m (pc + 1) ls (.int (Int32.ofNat n) :: rest))) : W p l e R s m args below meth c H locs cells slots Q (F0 m pc ls (.ref a :: rest)) := by
  obtain ⟨hx, hb, -, hown, hts, -, hK, -, -⟩ := C
  obtain ⟨L, k, hL, hP, hD, ha, hk0, he⟩ := q_look hp.1 hS
  exact va_alen hx hb hK hP k 0 he rfl rfl hdg kk
theorem q_copy (C : q_X p s m args meth c cc nL own Ts D g A) (hp : q_P D g A s.heap S H locs) (hls : ls.size = nL) {index n0 : Nat} {f : Nat → Int32} {sp dp n : Int32} (hS : S a = some (kI n0 f)) (hlink : Cond.methodLink own index arraycopyName ∈ Ts) (hnat : Cond.native arraycopyName ∈ Ts) (hstat : Cond.static arraycopyName ∈ Ts) (hini : Cond.initialized "java/lang/System" ∈ Ts)
    (h1 : ¬ sp < 0) (h2 : ¬ dp < 0) (h3 : ¬ n < 0) (h4 : sp.toNatClampNeg + n.toNatClampNeg ≤ n0) (h5 : dp.toNatClampNeg + n.toNatClampNeg ≤ n0) (hframes : 1 ≤ R.frames) (hlocals : (rest.map fun v => v.category).sum + (nativeFrameWords "java/lang/System" "arraycopy" 5 + 11) ≤ R.locals) (hdg : decode cc pc = .ok (.invokestatic index, 3))
    (kk : ∀ (H1 : Heap) (locs1 : List Loc), q_P D g A s.heap (va_up S a (some (kI n0 (va_cpy f f sp.toNatClampNeg dp.toNatClampNeg n.toNatClampNeg)))) H1 locs1 → W p l e R s m args below meth c H1 locs1 cells slots Q (F0 m (pc + 3) ls rest)) : W p l e R s m args below meth c H locs cells slots Q (F0 m pc ls (.int n :: .int dp :: .ref a :: .int sp :: .ref a :: rest)) := by
  obtain ⟨hx, hb, hml, hown, hts, -, hK, -, -⟩ := C
  obtain ⟨L, k, hL, hP, hD, ha, hk0, he⟩ := q_look hp.1 hS
  exact va_copyi hx hb (by rw [hml, hls]) hown (hts _ hlink) (hts _ hnat) (hts _ hstat) (hts _ hini) hK hP hD hp.2 k k 0 0 he he rfl rfl rfl h1 h2 h3 h4 h5 (fun _ _ => rfl) hframes hlocals hdg (fun H1 locs1 h1 h2 h3 => kk H1 locs1 ⟨q_putH (x := kI n0 (va_cpy f f sp.toNatClampNeg dp.toNatClampNeg n.toNatClampNeg)) hL hD ha hk0 h1 h2, h3⟩)
theorem q_new (C : q_X p s m args meth c cc nL own Ts D g A) (hp : q_P D g A s.heap S H locs) {ci : Nat} {Cn : String} {T : u_T} {N index : Nat} {fs : List Value} (ty : Nat → FieldType) (hty : ∀ k, k < N → parseFieldDescriptor (T k).2.2.1 = some (ty k)) (hc : vwCl[ci]? = some (Cn, T, N)) (hin : ∀ w ∈ u_ws Cn T N, w ∈ Ts) (hcl : Cond.classLink own index Cn ∈ Ts) (hinst : Cond.instantiable Cn N ∈ Ts) (hini : Cond.initialized Cn ∈ Ts) (hfs : ∀ j, j < N → defaultValue (ty j) = vp_V fs j) (hcells : cells + 1 ≤ R.cells) (hslots : slots + N ≤ R.slots) (hdg : decode cc pc = .ok (.new index, 3))
    (kk : ∀ (q : Nat) (H1 : Heap), S q = none → q_P D g A s.heap (va_up S q (some (kO ci fs))) H1 locs → W p l e R s m args below meth c H1 locs (cells + 1) (slots + N) Q (F0 m (pc + 3) ls (.ref q :: rest))) : W p l e R s m args below meth c H locs cells slots Q (F0 m pc ls rest) := by
  obtain ⟨hx, hb, hml, hown, hts, -, hK, -, hA⟩ := C
  obtain ⟨⟨L, hL, hP, hD⟩, hSv⟩ := hp
  exact va_new hx hb hts hin ty hty hown (hts _ hcl) (hts _ hinst) (hts _ hini) hK hP hD hSv hA hc hfs hcells hslots hdg (fun q H1 h1 h2 h3 => by
    obtain ⟨z1, z2⟩ := q_pushH (x := kO ci fs) hL h1 h2
    exact kk q H1 z1 ⟨z2, h3⟩)
theorem q_newI (C : q_X p s m args meth c cc nL own Ts D g A) (hp : q_P D g A s.heap S H locs) {n : Int32} {N' : Nat} (harr : Cond.arrayClass .int ∈ Ts) (hn : ¬ n < 0) (hN : n.toNatClampNeg = N') (hbytes : N' * 4 ≤ 536870912) (hcells : cells + 1 ≤ R.cells) (hslots : slots + N' ≤ R.slots) (hdg : decode cc pc = .ok (.newarray .int, 2))
    (kk : ∀ (q : Nat) (H1 : Heap), S q = none → q_P D g A s.heap (va_up S q (some (kI N' (fun _ => 0)))) H1 locs → W p l e R s m args below meth c H1 locs (cells + 1) (slots + N') Q (F0 m (pc + 2) ls (.ref q :: rest))) : W p l e R s m args below meth c H locs cells slots Q (F0 m pc ls (.int n :: rest)) := by
  obtain ⟨hx, hb, hml, hown, hts, -, hK, -, hA⟩ := C
  obtain ⟨⟨L, hL, hP, hD⟩, hSv⟩ := hp
  refine va_newa (atype := .int) (ty := .int) (a0 := (N', .inl (fun _ => 0))) hx hb (hts _ harr) rfl hK hP hD hSv hA (fun cA => rfl) hn hN hbytes hcells hslots hdg (fun q cA H1 h0 h1 h2 h3 => ?_)
  have e : cA = g.1 := Option.some.inj ((h0.2 3 (cA, .int) rfl).2.symm.trans (hK.2 0 (g.1, .int) rfl).2)
  subst e
  obtain ⟨z1, z2⟩ := q_pushH (x := kI N' (fun _ => 0)) hL h1 h2
  exact kk q H1 z1 ⟨z2, h3⟩
theorem q_newZ (C : q_X p s m args meth c cc nL own Ts D g A) (hp : q_P D g A s.heap S H locs) {n : Int32} {N' : Nat} (harr : Cond.arrayClass .boolean ∈ Ts) (hn : ¬ n < 0) (hN : n.toNatClampNeg = N') (hbytes : N' * 1 ≤ 536870912) (hcells : cells + 1 ≤ R.cells) (hslots : slots + N' ≤ R.slots) (hdg : decode cc pc = .ok (.newarray .boolean, 2))
    (kk : ∀ (q : Nat) (H1 : Heap), S q = none → q_P D g A s.heap (va_up S q (some (kZ N' (fun _ => 0)))) H1 locs → W p l e R s m args below meth c H1 locs (cells + 1) (slots + N') Q (F0 m (pc + 2) ls (.ref q :: rest))) : W p l e R s m args below meth c H locs cells slots Q (F0 m pc ls (.int n :: rest)) := by
  obtain ⟨hx, hb, hml, hown, hts, -, hK, -, hA⟩ := C
  obtain ⟨⟨L, hL, hP, hD⟩, hSv⟩ := hp
  refine va_newa (atype := .boolean) (ty := .boolean) (a0 := (N', .inl (fun _ => 0))) hx hb (hts _ harr) rfl hK hP hD hSv hA (fun cA => rfl) hn hN hbytes hcells hslots hdg (fun q cA H1 h0 h1 h2 h3 => ?_)
  have e : cA = g.2.1 := Option.some.inj ((h0.2 3 (cA, .boolean) rfl).2.symm.trans (hK.2 1 (g.2.1, .boolean) rfl).2)
  subst e
  obtain ⟨z1, z2⟩ := q_pushH (x := kZ N' (fun _ => 0)) hL h1 h2
  exact kk q H1 z1 ⟨z2, h3⟩
theorem q_newV (C : q_X p s m args meth c cc nL own Ts D g A) (hp : q_P D g A s.heap S H locs) {n : Int32} {N' index : Nat} (hcl : Cond.classLink own index RX6 ∈ Ts) (hn : ¬ n < 0) (hN : n.toNatClampNeg = N') (hbytes : N' * 4 ≤ 536870912) (hcells : cells + 1 ≤ R.cells) (hslots : slots + N' ≤ R.slots) (hdg : decode cc pc = .ok (.anewarray index, 3))
    (kk : ∀ (q : Nat) (H1 : Heap), S q = none → q_P D g A s.heap (va_up S q (some (kV N' (fun _ => none)))) H1 locs → W p l e R s m args below meth c H1 locs (cells + 1) (slots + N') Q (F0 m (pc + 3) ls (.ref q :: rest))) : W p l e R s m args below meth c H locs cells slots Q (F0 m pc ls (.int n :: rest)) := by
  obtain ⟨hx, hb, hml, hown, hts, -, hK, hNw, hA⟩ := C
  obtain ⟨⟨L, hL, hP, hD⟩, hSv⟩ := hp
  refine va_newq (C := RX6) hx hb hown (hts _ hcl) hNw.2 hK hP hD hSv hA hn hN hbytes hcells hslots hdg (fun q cA H1 h0 h1 h2 h3 => ?_)
  have e : cA = g.2.2 := by
    obtain ⟨_, _, _, _, _, h9⟩ := (h0.2 3 (cA, .object RX6) rfl).2
    obtain ⟨_, _, _, _, _, h8⟩ := (hK.2 2 (g.2.2, .object RX6) rfl).2
    exact Option.some.inj (h9.symm.trans h8)
  subst e
  obtain ⟨z1, z2⟩ := q_pushH (x := kV N' (fun _ => none)) hL h1 h2
  exact kk q H1 z1 ⟨z2, h3⟩
end QR
/-! what a walk asks of the pool, instruction by instruction -/
abbrev q_gI (ci k a : Nat) (S : q_S) (K : Int32 → Prop) : Prop := ∃ (fs : List Value) (x : Int32), S a = some (kO ci fs) ∧ fs[k]? = some (.int x) ∧ K x
abbrev q_gR (ci k a : Nat) (S : q_S) (K : Nat → Prop) : Prop := ∃ (fs : List Value) (r : Nat), S a = some (kO ci fs) ∧ fs[k]? = some (.ref r) ∧ K r
abbrev q_gO (ci k a : Nat) (S : q_S) (K : Option Nat → Prop) : Prop := ∃ (fs : List Value) (o : Option Nat), S a = some (kO ci fs) ∧ fs[k]? = some (va_rf o) ∧ K o
abbrev q_pV (ci k a : Nat) (v : Value) (S : q_S) (K : q_S → Prop) : Prop := ∃ fs : List Value, S a = some (kO ci fs) ∧ k < fs.length ∧ K (va_up S a (some (kO ci (fs.set k v))))
abbrev q_lI (a : Nat) (i : Int32) (S : q_S) (K : Int32 → Prop) : Prop := ∃ (n : Nat) (f : Nat → Int32), S a = some (kI n f) ∧ vp_in i n ∧ K (f i.toNatClampNeg)
abbrev q_lZ (a : Nat) (i : Int32) (S : q_S) (K : Int32 → Prop) : Prop := ∃ (n : Nat) (f : Nat → Int32), S a = some (kZ n f) ∧ vp_in i n ∧ K (f i.toNatClampNeg)
abbrev q_lV (a : Nat) (i : Int32) (S : q_S) (K : Option Nat → Prop) : Prop := ∃ (n : Nat) (f : Nat → Option Nat), S a = some (kV n f) ∧ vp_in i n ∧ K (f i.toNatClampNeg)
abbrev q_sI (a : Nat) (i x : Int32) (S : q_S) (K : q_S → Prop) : Prop := ∃ (n : Nat) (f : Nat → Int32), S a = some (kI n f) ∧ vp_in i n ∧ K (va_up S a (some (kI n (upd f i.toNatClampNeg x))))
abbrev q_sZ (a : Nat) (i x : Int32) (S : q_S) (K : q_S → Prop) : Prop := ∃ (n : Nat) (f : Nat → Int32), S a = some (kZ n f) ∧ vp_in i n ∧ K (va_up S a (some (kZ n (upd f i.toNatClampNeg (vp_nar .boolean x)))))
abbrev q_sV (a : Nat) (i : Int32) (v : Nat) (S : q_S) (K : q_S → Prop) : Prop := ∃ (n : Nat) (f : Nat → Option Nat) (vs : List Value), S a = some (kV n f) ∧ S v = some (kO 5 vs) ∧ vp_in i n ∧ K (va_up S a (some (kV n (va_up f i.toNatClampNeg (some v)))))
abbrev q_ln (a : Nat) (S : q_S) (K : Int32 → Prop) : Prop := ∃ (n : Nat) (f : Nat → Int32), S a = some (kI n f) ∧ K (Int32.ofNat n)
abbrev q_cp (a : Nat) (sp : Int32) (b : Nat) (dp n : Int32) (S : q_S) (K : q_S → Prop) : Prop := ∃ (n0 : Nat) (f : Nat → Int32), b = a ∧ S a = some (kI n0 f) ∧ ¬ sp < 0 ∧ ¬ dp < 0 ∧ ¬ n < 0 ∧ sp.toNatClampNeg + n.toNatClampNeg ≤ n0 ∧ dp.toNatClampNeg + n.toNatClampNeg ≤ n0 ∧ K (va_up S a (some (kI n0 (va_cpy f f sp.toNatClampNeg dp.toNatClampNeg n.toNatClampNeg))))
abbrev q_nC (x : q_C) (S : q_S) (K : Nat → q_S → Prop) : Prop := ∀ q : Nat, S q = none → K q (va_up S q (some x))
abbrev q_dr (o : Option Nat) (K : Nat → Prop) : Prop := ∃ a : Nat, o = some a ∧ K a
abbrev q_zr (v : Int32) (K : Prop) : Prop := narrow .boolean (.int v) = .int v ∧ K
def q_fuel : Nat := 4096
/-! the same rows, each taking what is asked and giving what goes on -/
def q_l (ls : Array Slot) (nL : Nat) (lv : List (Nat × Value)) : Prop := lv_has ls nL lv ∧ ∀ q ∈ lv, q.2.category = 1
theorem q_at {ls : Array Slot} {nL : Nat} {lv : List (Nat × Value)} (h : q_l ls nL lv) (k : Nat) {i : Nat} {v : Value} (hk : lv[k]? = some (i, v)) : ls[i]? = some (.val v) := lv_at h.1 k hk
theorem q_sub {ls : Array Slot} {nL : Nat} {lv lv' : List (Nat × Value)} (h : q_l ls nL lv) (ks : List Nat) (hl : lv_pick lv ks = lv') : q_l ls nL lv' := by
  refine ⟨lv_sub h.1 ks hl, fun q hq => ?_⟩
  subst hl
  obtain ⟨i, -, hi⟩ := List.mem_filterMap.mp hq
  exact h.2 q (List.mem_of_getElem? hi)
theorem q_rf1 (o : Option Nat) : (va_rf o).category = 1 := by cases o <;> rfl
theorem q_l_st {ls' : Array Slot} {nL i : Nat} {v : Value} {lv : List (Nat × Value)} {ls : Array Slot} (h : q_l ls nL lv) (hv : v.category = 1) (h' : lv_has ls' nL ((i, v) :: lv.filter (fun q => !(q.1 == i) && !(q.1 + 1 == i && q.2.category == 2)))) : q_l ls' nL ((i, v) :: lv.filter (fun q => !(q.1 == i))) := by
  refine ⟨⟨h'.1, h'.2.1, fun q hq => ?_⟩, fun q hq => ?_⟩
  · rcases List.mem_cons.mp hq with e | e
    · exact h'.2.2 q (List.mem_cons.mpr (Or.inl e))
    · obtain ⟨e1, e2⟩ := List.mem_filter.mp e
      refine h'.2.2 q (List.mem_cons.mpr (Or.inr (List.mem_filter.mpr ⟨e1, ?_⟩)))
      have h1 := h.2 q e1
      simp [h1] at e2 ⊢
      exact e2
  · rcases List.mem_cons.mp hq with e | e
    · rw [e]; exact hv
    · exact h.2 q (List.mem_filter.mp e).1
/-! contracts over the pool -/
def q_Pc (D : va_G) (g : q_A) (av : List Value) (S : q_S) (sz : Nat) : Array Value → State → Prop := va_Pc av (fun U => U.heap.size = sz ∧ va_K D vwCl (q_T g) U ∧ q_N U ∧ q_H D g (fun _ => True) S U.heap)
def q_B (D : va_G) (g : q_A) (A : Nat → Prop) (u : q_S) (t : State) : Prop := q_H D g A u t.heap
def q_Mi (l : Launch) (y : MethodName) (ws : List Cond) (rm : Room) (D : va_G) (g : q_A) (av : List Value) (S : q_S) (K : Int32 → q_S → Prop) : Prop := ∀ sz : Nat, Met l y ws rm (q_Pc D g av S sz) (va_Qi K (q_B D g (q_AS S sz)) (q_AS S sz)) rm.cells rm.slots (q_AS S sz)
def q_Mv (l : Launch) (y : MethodName) (ws : List Cond) (rm : Room) (D : va_G) (g : q_A) (av : List Value) (S : q_S) (K : q_S → Prop) : Prop := ∀ sz : Nat, Met l y ws rm (q_Pc D g av S sz) (va_Qv K (q_B D g (q_AS S sz)) (q_AS S sz)) rm.cells rm.slots (q_AS S sz)
def q_Mq (l : Launch) (y : MethodName) (ws : List Cond) (rm : Room) (D : va_G) (g : q_A) (av : List Value) (S : q_S) (K : Option Nat → q_S → Prop) : Prop := ∀ sz : Nat, Met l y ws rm (q_Pc D g av S sz) (va_Qq K (q_B D g (q_AS S sz)) (q_AS S sz)) rm.cells rm.slots (q_AS S sz)
theorem q_cat0 : ∀ (av : List Value) (k : Nat), av.all (fun v => v.category == 1) = true → ∀ q ∈ lv_args k av, q.2.category = 1 := by
  intro av
  induction av with
  | nil => intro k _ q hq; simp [lv_args] at hq
  | cons v av ih =>
    intro k h q hq
    simp only [List.all_cons, Bool.and_eq_true, beq_iff_eq] at h
    simp only [lv_args, List.mem_cons] at hq
    rcases hq with e | e
    · rw [e]; exact h.1
    · exact ih _ h.2 q e
theorem q_cat {av : List Value} (h : av.all (fun v => v.category == 1) = true) : ∀ q ∈ lv_args 0 av, q.2.category = 1 := q_cat0 av 0 h
theorem q_blind {D : va_G} {g : q_A} {av : List Value} {S : q_S} {sz : Nat} : FrameBlind (q_Pc D g av S sz) := fun a U gf mk q => by
  obtain ⟨q0, q1, qK, qN, qH⟩ := q
  exact ⟨q0, q1, va_K.moved (u := U) (U := U.calling gf mk a) (Vm.Alike.refl U.vm) qK, q_N.same (s := U) (U := U.calling gf mk a) rfl qN, qH⟩
theorem q_entry {D : va_G} {g : q_A} {S : q_S} {s : State} (h : q_H D g (fun _ => True) S s.heap) : q_P D g (q_AS S s.heap.size) s.heap S s.heap [] := by
  refine ⟨?_, va_S.rf⟩
  obtain ⟨L, hL, hP, hD⟩ := h
  refine ⟨L, hL, hP, hD.1, fun k q hk => ?_⟩
  obtain ⟨b, hb, he⟩ := List.mem_map.mp (List.mem_of_getElem? hk)
  rw [← he]
  exact Or.inl ((hL b).mp hb)
theorem q_ofW {l : Launch} {y : MethodName} {ws ws' : List Cond} {rm : Room} {Pc : Array Value → State → Prop} {Qc : Array Value → State → Outcome → State → Prop} {mc ms : Nat} {free : Addr → Prop} {cc : ByteArray} {maxL : Nat} {ret : Option FieldType}
    (hy : plainFor y = true) (hw : ws = Cond.code y cc maxL ret :: ws')
    (body : ∀ p e s m args below meth c s₁, BodyLoose p l y (headSpec ws rm) cc maxL ret e s m args below meth c s₁ → c.maxLocals = maxL → Pc args s →
      W p l e (headSpec ws rm).room s m args below meth c s.heap [] 0 0 (MQ below Qc args s mc ms free) (entryFrame m args maxL)) : Met l y ws rm Pc Qc mc ms free := by
  refine MetFree.of_bodySF (code := cc) (maxLocals := maxL) (ret := ret) hy ?_ ?_
  · intro args s m h hn
    obtain ⟨meth, c, h1, h2, h3, h4, h5, h6, -, -⟩ := Cond.code_spec hn (atoms_spec (ws := ws) h _ (by rw [hw]; exact List.mem_cons_self))
    exact ⟨meth, c, h1, h2, h3, h4, h5, h6⟩
  · intro p e s m args below meth c s₁ B hml hP _
    have hh0 : s₁.heap = s.heap := by rw [B.state]; rfl
    obtain ⟨t, a1, o, b1, b2, b3⟩ := body p e s m args below meth c s₁ B hml hP s₁ hh0 (Stand.of_body B)
    exact ⟨t, o, a1, b1, b2, ⟨b3.1, b3.2⟩⟩
theorem q_Mi.of {l : Launch} {y : MethodName} {ws ws' : List Cond} {rm : Room} {D : va_G} {g : q_A} {av : List Value} {S : q_S} {K : Int32 → q_S → Prop} {cc : ByteArray} {nL : Nat} {rt : FieldType} (hy : plainFor y = true) (hw : ws = Cond.code y cc nL (some rt) :: ws') (hn : (lg_sl av).length ≤ nL) (hcat : av.all (fun v => v.category == 1) = true)
    (body : ∀ (p : Program) (e : Env) (s : State) (m : MethodId) (args : Array Value) (below : List Frame) (meth : Method) (c : Code) (ls : Array Slot) (A : Nat → Prop), q_X p s m args meth c cc nL y.cls ws D g A → meth.sig.returnType = some rt → meth.name = y.name → q_P D g A s.heap S s.heap [] → q_l ls nL (lv_args 0 av) → W p l e rm s m args below meth c s.heap [] 0 0 (MQ below (va_Qi K (q_B D g A) A) args s rm.cells rm.slots A) (F0 m 0 ls [])) : q_Mi l y ws rm D g av S K := by
  intro sz
  refine q_ofW (cc := cc) (maxL := nL) (ret := some rt) hy hw ?_
  intro p e s m args below meth c s₁ B hml hv
  obtain ⟨rfl, hsz, hK, hN, hH⟩ := hv
  subst hsz
  have hl := lv_entry av (n := nL) hn
  rw [lg_entry_eq]
  exact body p e s m _ below meth c _ (q_AS S s.heap.size) ⟨B.exec, B.bytes, hml, findClass_of_methodNamed B.named, atoms_spec (ws := ws) B.pre, B.notSynchronized, hK, hN, fun q h => Or.inr h⟩ B.returns (name_of_methodNamed B.named B.method).1 (q_entry hH) ⟨hl, q_cat hcat⟩
theorem q_Mq.of {l : Launch} {y : MethodName} {ws ws' : List Cond} {rm : Room} {D : va_G} {g : q_A} {av : List Value} {S : q_S} {K : Option Nat → q_S → Prop} {cc : ByteArray} {nL : Nat} {rt : FieldType} (hy : plainFor y = true) (hw : ws = Cond.code y cc nL (some rt) :: ws') (hn : (lg_sl av).length ≤ nL) (hcat : av.all (fun v => v.category == 1) = true)
    (body : ∀ (p : Program) (e : Env) (s : State) (m : MethodId) (args : Array Value) (below : List Frame) (meth : Method) (c : Code) (ls : Array Slot) (A : Nat → Prop), q_X p s m args meth c cc nL y.cls ws D g A → meth.sig.returnType = some rt → meth.name = y.name → q_P D g A s.heap S s.heap [] → q_l ls nL (lv_args 0 av) → W p l e rm s m args below meth c s.heap [] 0 0 (MQ below (va_Qq K (q_B D g A) A) args s rm.cells rm.slots A) (F0 m 0 ls [])) : q_Mq l y ws rm D g av S K := by
  intro sz
  refine q_ofW (cc := cc) (maxL := nL) (ret := some rt) hy hw ?_
  intro p e s m args below meth c s₁ B hml hv
  obtain ⟨rfl, hsz, hK, hN, hH⟩ := hv
  subst hsz
  have hl := lv_entry av (n := nL) hn
  rw [lg_entry_eq]
  exact body p e s m _ below meth c _ (q_AS S s.heap.size) ⟨B.exec, B.bytes, hml, findClass_of_methodNamed B.named, atoms_spec (ws := ws) B.pre, B.notSynchronized, hK, hN, fun q h => Or.inr h⟩ B.returns (name_of_methodNamed B.named B.method).1 (q_entry hH) ⟨hl, q_cat hcat⟩
theorem q_Mv.of {l : Launch} {y : MethodName} {ws ws' : List Cond} {rm : Room} {D : va_G} {g : q_A} {av : List Value} {S : q_S} {K : q_S → Prop} {cc : ByteArray} {nL : Nat} (hy : plainFor y = true) (hw : ws = Cond.code y cc nL none :: ws') (hn : (lg_sl av).length ≤ nL) (hcat : av.all (fun v => v.category == 1) = true)
    (body : ∀ (p : Program) (e : Env) (s : State) (m : MethodId) (args : Array Value) (below : List Frame) (meth : Method) (c : Code) (ls : Array Slot) (A : Nat → Prop), q_X p s m args meth c cc nL y.cls ws D g A → meth.sig.returnType = none → meth.name = y.name → q_P D g A s.heap S s.heap [] → q_l ls nL (lv_args 0 av) → W p l e rm s m args below meth c s.heap [] 0 0 (MQ below (va_Qv K (q_B D g A) A) args s rm.cells rm.slots A) (F0 m 0 ls [])) : q_Mv l y ws rm D g av S K := by
  intro sz
  refine q_ofW (cc := cc) (maxL := nL) (ret := none) hy hw ?_
  intro p e s m args below meth c s₁ B hml hv
  obtain ⟨rfl, hsz, hK, hN, hH⟩ := hv
  subst hsz
  have hl := lv_entry av (n := nL) hn
  rw [lg_entry_eq]
  exact body p e s m _ below meth c _ (q_AS S s.heap.size) ⟨B.exec, B.bytes, hml, findClass_of_methodNamed B.named, atoms_spec (ws := ws) B.pre, B.notSynchronized, hK, hN, fun q h => Or.inr h⟩ B.returns (name_of_methodNamed B.named B.method).1 (q_entry hH) ⟨hl, q_cat hcat⟩
section QM
variable {p : Program} {l : Launch} {e : Env} {R : Room} {s : State} {m : MethodId} {args : Array Value} {below : List Frame} {meth : Method} {c : Code} {H : Heap} {locs : List Loc} {cells slots : Nat} {Q : State → Prop}
variable {cc : ByteArray} {nL pc : Nat} {ls : Array Slot} {rest st0 : List Value} {own : String} {Ts : List Cond} {D : va_G} {g : q_A} {A : Nat → Prop} {S : q_S} {a : Nat}
theorem q_iret (C : q_X p s m args meth c cc nL own Ts D g A) (hp : q_P D g A s.heap S H locs) (hr : meth.sig.returnType = some .int) {K : Int32 → q_S → Prop} {v : Int32} (h : K v S) (hdg : decode cc pc = .ok (.ireturn, 1)) : W p l e R s m args below meth c H locs cells slots (MQ below (va_Qi K (q_B D g A) A) args s cells slots A) (F0 m pc ls [.int v]) :=
  W.iret C.1 C.2.1 hr (fun t ht hW => ⟨⟨v, S, rfl, h, by show q_H D g A S t.heap; rw [ht]; exact hp.1⟩, hp.2.F ht⟩) hp.2.2.2 hdg C.2.2.2.2.2.1
theorem q_zret (C : q_X p s m args meth c cc nL own Ts D g A) (hp : q_P D g A s.heap S H locs) (hr : meth.sig.returnType = some .boolean) {K : Int32 → q_S → Prop} {v : Int32} (h : narrow .boolean (.int v) = .int v ∧ K v S) (hdg : decode cc pc = .ok (.ireturn, 1)) : W p l e R s m args below meth c H locs cells slots (MQ below (va_Qi K (q_B D g A) A) args s cells slots A) (F0 m pc ls [.int v]) :=
  W.zret C.1 C.2.1 hr h.1 (fun t ht hW => ⟨⟨v, S, rfl, h.2, by show q_H D g A S t.heap; rw [ht]; exact hp.1⟩, hp.2.F ht⟩) hp.2.2.2 hdg C.2.2.2.2.2.1
theorem q_vret (C : q_X p s m args meth c cc nL own Ts D g A) (hp : q_P D g A s.heap S H locs) (hr : meth.sig.returnType = none) {K : q_S → Prop} (h : K S) (hdg : decode cc pc = .ok (.return_, 1)) : W p l e R s m args below meth c H locs cells slots (MQ below (va_Qv K (q_B D g A) A) args s cells slots A) (F0 m pc ls []) :=
  W.vret C.1 C.2.1 hr (fun t ht hW => ⟨⟨S, rfl, h, by show q_H D g A S t.heap; rw [ht]; exact hp.1⟩, hp.2.F ht⟩) hp.2.2.2 hdg C.2.2.2.2.2.1
theorem q_aret (C : q_X p s m args meth c cc nL own Ts D g A) (hp : q_P D g A s.heap S H locs) {rt : FieldType} (hr : meth.sig.returnType = some rt) (hrt : (∃ n, rt = .object n) ∨ ∃ t, rt = .array t) {K : Option Nat → q_S → Prop} {o : Option Nat} (h : K o S) (hdg : decode cc pc = .ok (.areturn, 1)) : W p l e R s m args below meth c H locs cells slots (MQ below (va_Qq K (q_B D g A) A) args s cells slots A) (F0 m pc ls [va_rf o]) :=
  W.aret C.1 C.2.1 hr hrt (by cases o with | none => exact Or.inl rfl | some x => exact Or.inr ⟨x, rfl⟩) (fun t ht hW => ⟨⟨o, S, rfl, h, by show q_H D g A S t.heap; rw [ht]; exact hp.1⟩, hp.2.F ht⟩) hp.2.2.2 hdg C.2.2.2.2.2.1
theorem q_free (C : q_X p s m args meth c cc nL own Ts D g A) (hp : q_P D g A s.heap S H locs) : ∀ q, q_AS S H.size q → A q := by
  intro q h
  rcases h with h | h
  · exact hp.1.inA h
  · exact C.2.2.2.2.2.2.2.2 q (Nat.le_trans hp.2.1 h)
theorem q_preU (C : q_X p s m args meth c cc nL own Ts D g A) (hp : q_P D g A s.heap S H locs) {av : List Value} : ∀ U : State, U.heap = H → s.WarmedH U.vm → q_Pc D g av S H.size av.toArray U :=
  fun U hU hW => ⟨rfl, by rw [hU], va_K.moved hW.alike C.2.2.2.2.2.2.1, C.2.2.2.2.2.2.2.1.warm hW, by rw [hU]; exact hp.1.mono (fun _ _ => trivial)⟩
theorem q_runV (C : q_X p s m args meth c cc nL own Ts D g A) (hp : q_P D g A s.heap S H locs) {y : MethodName} {bytes : ByteArray} {maxL n index ci b N : Nat} {ret : Option FieldType} {ws : List Cond} {rm : Room} {Cn : String} {T : u_T} {As : List Value} {Qc : Array Value → State → Outcome → State → Prop} (hM : Met l y ws rm (q_Pc D g (.ref b :: As) S H.size) Qc rm.cells rm.slots (q_AS S H.size)) (cw : CallW R s args own Cn index y bytes maxL ret ws rm rm.cells rm.slots n) (his : q_is ci b S) (hc : vwCl[ci]? = some (Cn, T, N)) (hn : As.length = n) (hls : ls.size = nL) (hst : st0 = As.reverse ++ .ref b :: rest) (hW : (rest.map fun v => v.category).sum ≤ 8) (hdg : decode cc pc = .ok (.invokevirtual index, 3)) (hf : cells + rm.cells ≤ R.cells ∧ slots + rm.slots ≤ R.slots) :
    va_Run p l e R s m args below meth c H locs cells slots rm.cells rm.slots (F0 m pc ls st0) rest (Qc (Value.ref b :: As).toArray) (q_AS S H.size) := by
  obtain ⟨fs, hb⟩ := his
  obtain ⟨L, i, hL, hP, hD, ha, -, he⟩ := q_look hp.1 hb
  exact va_runV (Ts := Ts) ⟨C.1, C.2.1, C.2.2.1, C.2.2.2.1, C.2.2.2.2.1⟩ hM cw ⟨q_blind, va_recv C.2.2.2.2.2.2.1 hP hc he, q_preU C hp⟩ rfl hn hls hst (lv_room hW) hdg hf
theorem q_runS (C : q_X p s m args meth c cc nL own Ts D g A) (hp : q_P D g A s.heap S H locs) {y : MethodName} {bytes : ByteArray} {maxL n index : Nat} {ret : Option FieldType} {ws : List Cond} {rm : Room} {As : List Value} {Qc : Array Value → State → Outcome → State → Prop} (hM : Met l y ws rm (q_Pc D g As S H.size) Qc rm.cells rm.slots (q_AS S H.size)) (cw : CallB R s args own index y bytes maxL ret ws rm rm.cells rm.slots n ∧ (Cond.static y).before args s = true) (hn : As.length = n) (hls : ls.size = nL) (hst : st0 = As.reverse ++ rest) (hW : (rest.map fun v => v.category).sum ≤ 8) (hdg : decode cc pc = .ok (.invokestatic index, 3)) (hf : cells + rm.cells ≤ R.cells ∧ slots + rm.slots ≤ R.slots) :
    va_Run p l e R s m args below meth c H locs cells slots rm.cells rm.slots (F0 m pc ls st0) rest (Qc As.toArray) (q_AS S H.size) :=
  va_runS (Ts := Ts) ⟨C.1, C.2.1, C.2.2.1, C.2.2.2.1, C.2.2.2.2.1⟩ hM cw ⟨q_blind, q_preU C hp⟩ rfl hn hls hst (lv_room hW) hdg hf
theorem q_runI (C : q_X p s m args meth c cc nL own Ts D g A) (hp : q_P D g A s.heap S H locs) {y : MethodName} {bytes : ByteArray} {maxL n index b : Nat} {ws : List Cond} {rm : Room} {As : List Value} {Qc : Array Value → State → Outcome → State → Prop} (hM : Met l y ws rm (q_Pc D g (.ref b :: As) S H.size) Qc rm.cells rm.slots (q_AS S H.size)) (cw : CallB R s args own index y bytes maxL none ws rm rm.cells rm.slots n ∧ y.name = "<init>" ∧ (Cond.instanceMethod y).before args s = true) (hn : As.length = n) (hls : ls.size = nL) (hst : st0 = As.reverse ++ .ref b :: rest) (hW : (rest.map fun v => v.category).sum ≤ 8) (hdg : decode cc pc = .ok (.invokespecial index, 3)) (hf : cells + rm.cells ≤ R.cells ∧ slots + rm.slots ≤ R.slots) :
    va_Run p l e R s m args below meth c H locs cells slots rm.cells rm.slots (F0 m pc ls st0) rest (Qc (Value.ref b :: As).toArray) (q_AS S H.size) :=
  va_runI (Ts := Ts) ⟨C.1, C.2.1, C.2.2.1, C.2.2.2.1, C.2.2.2.2.1⟩ hM cw ⟨q_blind, q_preU C hp⟩ rfl hn hls hst (lv_room hW) hdg hf
theorem q_runIN (C : q_X p s m args meth c cc nL own Ts D g A) (hp : q_P D g A s.heap S H locs) {y : MethodName} {bytes : ByteArray} {maxL n index b : Nat} {ws ws' : List Cond} {rm : Room} {As : List Value} {Qc : Array Value → State → Outcome → State → Prop} (hM : Met l y ws rm (q_Pc D g (.ref b :: As) S H.size) Qc rm.cells rm.slots (q_AS S H.size)) (hG : GoodIn Ts ws) (hw : ws = Cond.code y bytes maxL none :: ws') (hl : Cond.methodLinkNest own index y RX7 ∈ q_nest) (hini : Cond.initialized y.cls ∈ Ts) (hinst : Cond.instanceMethod y ∈ Ts) (hd : y.cls ≠ "java/lang/invoke/MethodHandle" ∧ y.cls ≠ "java/lang/invoke/VarHandle" ∧ (parseMethodDescriptor y.desc).map (fun d => d.parameters.length) = some n) (hR : rm.frames + 1 ≤ R.frames ∧ 8 + (maxL + 11) + rm.locals ≤ R.locals) (hy : y.name = "<init>") (hn : As.length = n) (hls : ls.size = nL) (hst : st0 = As.reverse ++ .ref b :: rest) (hW : (rest.map fun v => v.category).sum ≤ 8) (hdg : decode cc pc = .ok (.invokespecial index, 3)) (hf : cells + rm.cells ≤ R.cells ∧ slots + rm.slots ≤ R.slots) :
    va_Run p l e R s m args below meth c H locs cells slots rm.cells rm.slots (F0 m pc ls st0) rest (Qc (Value.ref b :: As).toArray) (q_AS S H.size) :=
  va_runIN (Ts := Ts) (host := RX7) ⟨C.1, C.2.1, C.2.2.1, C.2.2.2.1, C.2.2.2.2.1⟩ hM ⟨va_cnB n C.2.2.2.2.1 hG hw rfl rfl (C.2.2.2.2.2.2.2.1.1 _ hl) (C.2.2.2.2.1 _ hini) hd hR, hy, C.2.2.2.2.1 _ hinst⟩ ⟨q_blind, q_preU C hp⟩ rfl hn hls hst (lv_room hW) hdg hf
theorem q_finI (C : q_X p s m args meth c cc nL own Ts D g A) (hp : q_P D g A s.heap S H locs) {mc ms : Nat} {av : Array Value} {K : Int32 → q_S → Prop} (hr : va_Run p l e R s m args below meth c H locs cells slots mc ms (F0 m pc ls st0) rest (va_Qi K (q_B D g (q_AS S H.size)) (q_AS S H.size) av) (q_AS S H.size))
    (kk : ∀ (r : Int32) (u : q_S) (H1 : Heap) (locs1 : List Loc), K r u → q_P D g A s.heap u H1 locs1 → W p l e R s m args below meth c H1 locs1 (cells + mc) (slots + ms) Q (F0 m (pc + 3) ls (.int r :: rest))) : W p l e R s m args below meth c H locs cells slots Q (F0 m pc ls st0) :=
  va_calli hr hp.2 (fun q _ h => q_free C hp q h) (q_free C hp) (fun r u t H1 locs1 ht hvm hw hB hz hk hS1 => kk r u H1 locs1 hw ⟨by have h9 : q_H D g (q_AS S H.size) u t.heap := hB; rw [ht] at h9; exact h9.mono (q_free C hp), hS1⟩)
theorem q_finV (C : q_X p s m args meth c cc nL own Ts D g A) (hp : q_P D g A s.heap S H locs) {mc ms : Nat} {av : Array Value} {K : q_S → Prop} (hr : va_Run p l e R s m args below meth c H locs cells slots mc ms (F0 m pc ls st0) rest (va_Qv K (q_B D g (q_AS S H.size)) (q_AS S H.size) av) (q_AS S H.size))
    (kk : ∀ (u : q_S) (H1 : Heap) (locs1 : List Loc), K u → q_P D g A s.heap u H1 locs1 → W p l e R s m args below meth c H1 locs1 (cells + mc) (slots + ms) Q (F0 m (pc + 3) ls rest)) : W p l e R s m args below meth c H locs cells slots Q (F0 m pc ls st0) :=
  va_callv hr hp.2 (fun q _ h => q_free C hp q h) (q_free C hp) (fun u t H1 locs1 ht hvm hw hB hz hk hS1 => kk u H1 locs1 hw ⟨by have h9 : q_H D g (q_AS S H.size) u t.heap := hB; rw [ht] at h9; exact h9.mono (q_free C hp), hS1⟩)
theorem q_finQ (C : q_X p s m args meth c cc nL own Ts D g A) (hp : q_P D g A s.heap S H locs) {mc ms : Nat} {av : Array Value} {K : Option Nat → q_S → Prop} (hr : va_Run p l e R s m args below meth c H locs cells slots mc ms (F0 m pc ls st0) rest (va_Qq K (q_B D g (q_AS S H.size)) (q_AS S H.size) av) (q_AS S H.size))
    (kk : ∀ (r : Option Nat) (u : q_S) (H1 : Heap) (locs1 : List Loc), K r u → q_P D g A s.heap u H1 locs1 → W p l e R s m args below meth c H1 locs1 (cells + mc) (slots + ms) Q (F0 m (pc + 3) ls (va_rf r :: rest))) : W p l e R s m args below meth c H locs cells slots Q (F0 m pc ls st0) :=
  va_callq hr hp.2 (fun q _ h => q_free C hp q h) (q_free C hp) (fun r u t H1 locs1 ht hvm hw hB hz hk hS1 => kk r u H1 locs1 hw ⟨by have h9 : q_H D g (q_AS S H.size) u t.heap := hB; rw [ht] at h9; exact h9.mono (q_free C hp), hS1⟩)
theorem q_objI (C : q_X p s m args meth c cc nL own Ts D g A) {idx : Nat} (hlink : Cond.methodLink own idx Lib.objectInit ∈ Ts) (hinst : Cond.instanceMethod Lib.objectInit ∈ Ts) (hcode : Cond.code Lib.objectInit ⟨#[0xb1]⟩ 1 none ∈ Ts) (hls : ls.size = nL) (hd : decode cc pc = .ok (.invokespecial idx, 3)) (hframes : 1 ≤ R.frames) (hlocals : 2 * (F0 m pc ls (.ref a :: rest)).monitorRoom + (rest.map fun v => v.category).sum + 12 ≤ R.locals)
    (kk : W p l e R s m args below meth c H locs cells slots Q (F0 m (pc + 3) ls rest)) : W p l e R s m args below meth c H locs cells slots Q (F0 m pc ls (.ref a :: rest)) :=
  W.objInit C.1 C.2.1 C.2.2.2.1 (C.2.2.2.2.1 _ hlink) (C.2.2.2.2.1 _ hinst) (C.2.2.2.2.1 _ hcode) rfl (by rw [C.2.2.1]; exact hls) rfl hd hframes hlocals kk
theorem q_max (C : q_X p s m args meth c cc nL own Ts D g A) (hls : ls.size = nL) {index : Nat} (hlink : Cond.methodLink own index Lib.Math.max.name ∈ Ts) (hstat : Cond.static Lib.Math.max.name ∈ Ts) (hini : Cond.initialized "java/lang/Math" ∈ Ts) (hcode : Cond.code Lib.Math.max.name Lib.Math.max.code 2 (some .int) ∈ Ts) (hframes : 1 ≤ R.frames) (hlocals : (rest.map fun v => v.category).sum + 13 ≤ R.locals) (hc : cells ≤ R.cells) (hs : slots ≤ R.slots) {x y : Int32} (hdg : decode cc pc = .ok (.invokestatic index, 3))
    (kk : W p l e R s m args below meth c H locs cells slots Q (F0 m (pc + 3) ls (.int (if x < y then y else x) :: rest))) : W p l e R s m args below meth c H locs cells slots Q (F0 m pc ls (.int y :: .int x :: rest)) :=
  va_mmax C.1 C.2.1 (by rw [C.2.2.1, hls]) C.2.2.2.1 (C.2.2.2.2.1 _ hlink) (C.2.2.2.2.1 _ hstat) (C.2.2.2.2.1 _ hini) (C.2.2.2.2.1 _ hcode) hframes hlocals hc hs hdg kk
theorem q_min (C : q_X p s m args meth c cc nL own Ts D g A) (hls : ls.size = nL) {index : Nat} (hlink : Cond.methodLink own index Lib.Math.min.name ∈ Ts) (hstat : Cond.static Lib.Math.min.name ∈ Ts) (hini : Cond.initialized "java/lang/Math" ∈ Ts) (hcode : Cond.code Lib.Math.min.name Lib.Math.min.code 2 (some .int) ∈ Ts) (hframes : 1 ≤ R.frames) (hlocals : (rest.map fun v => v.category).sum + 13 ≤ R.locals) (hc : cells ≤ R.cells) (hs : slots ≤ R.slots) {x y : Int32} (hdg : decode cc pc = .ok (.invokestatic index, 3))
    (kk : W p l e R s m args below meth c H locs cells slots Q (F0 m (pc + 3) ls (.int (if y < x then y else x) :: rest))) : W p l e R s m args below meth c H locs cells slots Q (F0 m pc ls (.int y :: .int x :: rest)) :=
  va_mmin C.1 C.2.1 (by rw [C.2.2.1, hls]) C.2.2.2.1 (C.2.2.2.2.1 _ hlink) (C.2.2.2.2.1 _ hstat) (C.2.2.2.2.1 _ hini) (C.2.2.2.2.1 _ hcode) hframes hlocals hc hs hdg kk
theorem q_aload_n (hx : p.tables.exec = Jvm.exec) (hb : c.code = cc) {k : Fin 4} {i : Nat} {o : Option Nat} (hdg : decode cc pc = .ok (.aload_n k, 1)) (hi : (k : Nat) = i) (hl : ls[i]? = some (.val (va_rf o))) (kk : W p l e R s m args below meth c H locs cells slots Q (F0 m (pc + 1) ls (va_rf o :: rest))) : W p l e R s m args below meth c H locs cells slots Q (F0 m pc ls rest) := by
  cases o with
  | none => exact lv_aload_nN hx hb hdg hi hl kk
  | some x => exact lv_aload_n hx hb hdg hi hl kk
theorem q_aload (hx : p.tables.exec = Jvm.exec) (hb : c.code = cc) {i : Nat} {o : Option Nat} (hdg : decode cc pc = .ok (.aload i, 2)) (hl : ls[i]? = some (.val (va_rf o))) (kk : W p l e R s m args below meth c H locs cells slots Q (F0 m (pc + 2) ls (va_rf o :: rest))) : W p l e R s m args below meth c H locs cells slots Q (F0 m pc ls rest) := by
  cases o with
  | none => exact lv_aloadN hx hb hdg hl kk
  | some x => exact lv_aload hx hb hdg hl kk
theorem q_astore_n (hx : p.tables.exec = Jvm.exec) (hb : c.code = cc) {k : Fin 4} {i : Nat} {o : Option Nat} {lv lv' : List (Nat × Value)} (hdg : decode cc pc = .ok (.astore_n k, 1)) (hi : (k : Nat) = i) (h : lv_has ls nL lv) (hn : i < nL) (hl : (i, va_rf o) :: lv.filter (fun q => !(q.1 == i) && !(q.1 + 1 == i && q.2.category == 2)) = lv') (kk : ∀ ls' : Array Slot, lv_has ls' nL lv' → W p l e R s m args below meth c H locs cells slots Q (F0 m (pc + 1) ls' rest)) : W p l e R s m args below meth c H locs cells slots Q (F0 m pc ls (va_rf o :: rest)) := by
  cases o with
  | none => exact lv_astore_nN hx hb hdg hi h hn hl kk
  | some x => exact lv_astore_n hx hb hdg hi h hn hl kk
theorem q_astore (hx : p.tables.exec = Jvm.exec) (hb : c.code = cc) {i : Nat} {o : Option Nat} {lv lv' : List (Nat × Value)} (hdg : decode cc pc = .ok (.astore i, 2)) (h : lv_has ls nL lv) (hn : i < nL) (hl : (i, va_rf o) :: lv.filter (fun q => !(q.1 == i) && !(q.1 + 1 == i && q.2.category == 2)) = lv') (kk : ∀ ls' : Array Slot, lv_has ls' nL lv' → W p l e R s m args below meth c H locs cells slots Q (F0 m (pc + 2) ls' rest)) : W p l e R s m args below meth c H locs cells slots Q (F0 m pc ls (va_rf o :: rest)) := by
  cases o with
  | none => exact lv_astoreN hx hb hdg h hn hl kk
  | some x => exact lv_astore hx hb hdg h hn hl kk
theorem q_ifnull (hx : p.tables.exec = Jvm.exec) (hb : c.code = cc) {o : Option Nat} {off : Int} {tgt : Nat} (hdg : decode cc pc = .ok (.ifnull off, 3)) (ht : (pc : Int) + off = (tgt : Int)) (kn : o = none → W p l e R s m args below meth c H locs cells slots Q (F0 m tgt ls rest)) (ks : ∀ x, o = some x → W p l e R s m args below meth c H locs cells slots Q (F0 m (pc + 3) ls rest)) : W p l e R s m args below meth c H locs cells slots Q (F0 m pc ls (va_rf o :: rest)) := by
  cases o with
  | none => exact lv_ifnullN hx hb hdg ht (kn rfl)
  | some x => exact lv_ifnull hx hb hdg (ks x rfl)
theorem q_ifnonnull (hx : p.tables.exec = Jvm.exec) (hb : c.code = cc) {o : Option Nat} {off : Int} {tgt : Nat} (hdg : decode cc pc = .ok (.ifnonnull off, 3)) (ht : (pc : Int) + off = (tgt : Int)) (kn : o = none → W p l e R s m args below meth c H locs cells slots Q (F0 m (pc + 3) ls rest)) (ks : ∀ x, o = some x → W p l e R s m args below meth c H locs cells slots Q (F0 m tgt ls rest)) : W p l e R s m args below meth c H locs cells slots Q (F0 m pc ls (va_rf o :: rest)) := by
  cases o with
  | none => exact lv_ifnonnullN hx hb hdg (kn rfl)
  | some x => exact lv_ifnonnull hx hb hdg ht (ks x rfl)
end QM
section QK
variable {p : Program} {l : Launch} {e : Env} {R : Room} {s : State} {m : MethodId} {args : Array Value} {below : List Frame} {meth : Method} {c : Code} {H : Heap} {locs : List Loc} {cells slots : Nat} {Q : State → Prop}
variable {cc : ByteArray} {nL pc : Nat} {ls : Array Slot} {rest st0 : List Value} {own : String} {Ts : List Cond} {D : va_G} {g : q_A} {A : Nat → Prop} {S : q_S} {a : Nat}
theorem q_istn (hx : p.tables.exec = Jvm.exec) (hb : c.code = cc) {k : Fin 4} {i : Nat} {x : Int32} {lv lv' : List (Nat × Value)} (hdg : decode cc pc = .ok (.istore_n k, 1)) (hi : (k : Nat) = i) (h : q_l ls nL lv) (hn : i < nL) (hl : (i, Value.int x) :: lv.filter (fun q => !(q.1 == i)) = lv') (kk : ∀ ls' : Array Slot, q_l ls' nL lv' → W p l e R s m args below meth c H locs cells slots Q (F0 m (pc + 1) ls' rest)) : W p l e R s m args below meth c H locs cells slots Q (F0 m pc ls (.int x :: rest)) :=
  lv_istore_n hx hb hdg hi h.1 hn rfl (fun ls' h' => kk ls' (hl ▸ q_l_st h rfl h'))
theorem q_ist (hx : p.tables.exec = Jvm.exec) (hb : c.code = cc) {i : Nat} {x : Int32} {lv lv' : List (Nat × Value)} (hdg : decode cc pc = .ok (.istore i, 2)) (h : q_l ls nL lv) (hn : i < nL) (hl : (i, Value.int x) :: lv.filter (fun q => !(q.1 == i)) = lv') (kk : ∀ ls' : Array Slot, q_l ls' nL lv' → W p l e R s m args below meth c H locs cells slots Q (F0 m (pc + 2) ls' rest)) : W p l e R s m args below meth c H locs cells slots Q (F0 m pc ls (.int x :: rest)) :=
  lv_istore hx hb hdg h.1 hn rfl (fun ls' h' => kk ls' (hl ▸ q_l_st h rfl h'))
theorem q_astn (hx : p.tables.exec = Jvm.exec) (hb : c.code = cc) {k : Fin 4} {i : Nat} {o : Option Nat} {lv lv' : List (Nat × Value)} (hdg : decode cc pc = .ok (.astore_n k, 1)) (hi : (k : Nat) = i) (h : q_l ls nL lv) (hn : i < nL) (hl : (i, va_rf o) :: lv.filter (fun q => !(q.1 == i)) = lv') (kk : ∀ ls' : Array Slot, q_l ls' nL lv' → W p l e R s m args below meth c H locs cells slots Q (F0 m (pc + 1) ls' rest)) : W p l e R s m args below meth c H locs cells slots Q (F0 m pc ls (va_rf o :: rest)) :=
  q_astore_n hx hb hdg hi h.1 hn rfl (fun ls' h' => kk ls' (hl ▸ q_l_st h (q_rf1 o) h'))
theorem q_ast (hx : p.tables.exec = Jvm.exec) (hb : c.code = cc) {i : Nat} {o : Option Nat} {lv lv' : List (Nat × Value)} (hdg : decode cc pc = .ok (.astore i, 2)) (h : q_l ls nL lv) (hn : i < nL) (hl : (i, va_rf o) :: lv.filter (fun q => !(q.1 == i)) = lv') (kk : ∀ ls' : Array Slot, q_l ls' nL lv' → W p l e R s m args below meth c H locs cells slots Q (F0 m (pc + 2) ls' rest)) : W p l e R s m args below meth c H locs cells slots Q (F0 m pc ls (va_rf o :: rest)) :=
  q_astore hx hb hdg h.1 hn rfl (fun ls' h' => kk ls' (hl ▸ q_l_st h (q_rf1 o) h'))
theorem q_inc (hx : p.tables.exec = Jvm.exec) (hb : c.code = cc) {i k : Nat} {n : Int} {x v : Int32} {lv lv' : List (Nat × Value)} (hdg : decode cc pc = .ok (.iinc i n, 3)) (h : q_l ls nL lv) (hk : lv[k]? = some (i, .int x)) (hv : x + Int32.ofInt n = v) (hn : i < nL) (hl : (i, Value.int v) :: lv.filter (fun q => !(q.1 == i)) = lv') (kk : ∀ ls' : Array Slot, q_l ls' nL lv' → W p l e R s m args below meth c H locs cells slots Q (F0 m (pc + 3) ls' rest)) : W p l e R s m args below meth c H locs cells slots Q (F0 m pc ls rest) :=
  lv_iinc hx hb hdg h.1 hk hv hn rfl (fun ls' h' => kk ls' (hl ▸ q_l_st h rfl h'))
theorem q_rGI (C : q_X p s m args meth c cc nL own Ts D g A) (hp : q_P D g A s.heap S H locs) {ci k : Nat} {Cn : String} {T : u_T} {N index : Nat} {K : Int32 → Prop} (h : q_gI ci k a S K) (hc : vwCl[ci]? = some (Cn, T, N)) (hin : ∀ w ∈ u_ws Cn T N, w ∈ Ts) (hk : k < N) (hl : Cond.fieldLink own index (T k).1 (T k).2.1 (T k).2.2.1 ∈ Ts) (hdg : decode cc pc = .ok (.getfield index, 3)) (kk : ∀ x, K x → W p l e R s m args below meth c H locs cells slots Q (F0 m (pc + 3) ls (.int x :: rest))) : W p l e R s m args below meth c H locs cells slots Q (F0 m pc ls (.ref a :: rest)) := by
  obtain ⟨fs, x, h1, h2, h3⟩ := h
  exact q_get C hp h1 h2 hc hin hk hl hdg (kk x h3)
theorem q_rGR (C : q_X p s m args meth c cc nL own Ts D g A) (hp : q_P D g A s.heap S H locs) {ci k : Nat} {Cn : String} {T : u_T} {N index : Nat} {K : Nat → Prop} (h : q_gR ci k a S K) (hc : vwCl[ci]? = some (Cn, T, N)) (hin : ∀ w ∈ u_ws Cn T N, w ∈ Ts) (hk : k < N) (hl : Cond.fieldLink own index (T k).1 (T k).2.1 (T k).2.2.1 ∈ Ts) (hdg : decode cc pc = .ok (.getfield index, 3)) (kk : ∀ x, K x → W p l e R s m args below meth c H locs cells slots Q (F0 m (pc + 3) ls (.ref x :: rest))) : W p l e R s m args below meth c H locs cells slots Q (F0 m pc ls (.ref a :: rest)) := by
  obtain ⟨fs, x, h1, h2, h3⟩ := h
  exact q_get C hp h1 h2 hc hin hk hl hdg (kk x h3)
theorem q_rGO (C : q_X p s m args meth c cc nL own Ts D g A) (hp : q_P D g A s.heap S H locs) {ci k : Nat} {Cn : String} {T : u_T} {N index : Nat} {K : Option Nat → Prop} (h : q_gO ci k a S K) (hc : vwCl[ci]? = some (Cn, T, N)) (hin : ∀ w ∈ u_ws Cn T N, w ∈ Ts) (hk : k < N) (hl : Cond.fieldLink own index (T k).1 (T k).2.1 (T k).2.2.1 ∈ Ts) (hdg : decode cc pc = .ok (.getfield index, 3)) (kk : ∀ x, K x → W p l e R s m args below meth c H locs cells slots Q (F0 m (pc + 3) ls (va_rf x :: rest))) : W p l e R s m args below meth c H locs cells slots Q (F0 m pc ls (.ref a :: rest)) := by
  obtain ⟨fs, x, h1, h2, h3⟩ := h
  exact q_get C hp h1 h2 hc hin hk hl hdg (kk x h3)
theorem q_nGI (C : q_X p s m args meth c cc nL own Ts D g A) (hp : q_P D g A s.heap S H locs) {ci k : Nat} {Cn : String} {T : u_T} {N index : Nat} {K : Int32 → Prop} (h : q_gI ci k a S K) (hc : vwCl[ci]? = some (Cn, T, N)) (hin : ∀ w ∈ u_ws Cn T N, w ∈ Ts) (hk : k < N) (hl : Cond.fieldLinkNest own index (T k).1 (T k).2.1 (T k).2.2.1 RX7 ∈ q_nest) (hdg : decode cc pc = .ok (.getfield index, 3)) (kk : ∀ x, K x → W p l e R s m args below meth c H locs cells slots Q (F0 m (pc + 3) ls (.int x :: rest))) : W p l e R s m args below meth c H locs cells slots Q (F0 m pc ls (.ref a :: rest)) := by
  obtain ⟨fs, x, h1, h2, h3⟩ := h
  exact q_getN C hp h1 h2 hc hin hk hl hdg (kk x h3)
theorem q_nGR (C : q_X p s m args meth c cc nL own Ts D g A) (hp : q_P D g A s.heap S H locs) {ci k : Nat} {Cn : String} {T : u_T} {N index : Nat} {K : Nat → Prop} (h : q_gR ci k a S K) (hc : vwCl[ci]? = some (Cn, T, N)) (hin : ∀ w ∈ u_ws Cn T N, w ∈ Ts) (hk : k < N) (hl : Cond.fieldLinkNest own index (T k).1 (T k).2.1 (T k).2.2.1 RX7 ∈ q_nest) (hdg : decode cc pc = .ok (.getfield index, 3)) (kk : ∀ x, K x → W p l e R s m args below meth c H locs cells slots Q (F0 m (pc + 3) ls (.ref x :: rest))) : W p l e R s m args below meth c H locs cells slots Q (F0 m pc ls (.ref a :: rest)) := by
  obtain ⟨fs, x, h1, h2, h3⟩ := h
  exact q_getN C hp h1 h2 hc hin hk hl hdg (kk x h3)
theorem q_nGO (C : q_X p s m args meth c cc nL own Ts D g A) (hp : q_P D g A s.heap S H locs) {ci k : Nat} {Cn : String} {T : u_T} {N index : Nat} {K : Option Nat → Prop} (h : q_gO ci k a S K) (hc : vwCl[ci]? = some (Cn, T, N)) (hin : ∀ w ∈ u_ws Cn T N, w ∈ Ts) (hk : k < N) (hl : Cond.fieldLinkNest own index (T k).1 (T k).2.1 (T k).2.2.1 RX7 ∈ q_nest) (hdg : decode cc pc = .ok (.getfield index, 3)) (kk : ∀ x, K x → W p l e R s m args below meth c H locs cells slots Q (F0 m (pc + 3) ls (va_rf x :: rest))) : W p l e R s m args below meth c H locs cells slots Q (F0 m pc ls (.ref a :: rest)) := by
  obtain ⟨fs, x, h1, h2, h3⟩ := h
  exact q_getN C hp h1 h2 hc hin hk hl hdg (kk x h3)
theorem q_rP (C : q_X p s m args meth c cc nL own Ts D g A) (hp : q_P D g A s.heap S H locs) {ci k : Nat} {Cn : String} {T : u_T} {N index : Nat} {ty : FieldType} {v : Value} {K : q_S → Prop} (h : q_pV ci k a v S K) (ty0 : Nat → FieldType) (hty : ∀ k, k < N → parseFieldDescriptor (T k).2.2.1 = some (ty0 k)) (hnm : ∀ a, a < N → ∀ b, b < N → a ≠ b → (T a).2.1 ≠ (T b).2.1) (hc : vwCl[ci]? = some (Cn, T, N)) (hin : ∀ w ∈ u_ws Cn T N, w ∈ Ts) (hk : k < N) (hl : Cond.fieldLink own index (T k).1 (T k).2.1 (T k).2.2.1 ∈ Ts) (hfin : (T k).2.2.2 = false) (hd : ty0 k = ty) (hn : narrow ty v = v) (hfit : fits ty v = true) (hdg : decode cc pc = .ok (.putfield index, 3)) (kk : ∀ (S1 : q_S) (H1 : Heap) (locs1 : List Loc), K S1 → q_P D g A s.heap S1 H1 locs1 → W p l e R s m args below meth c H1 locs1 cells slots Q (F0 m (pc + 3) ls rest)) : W p l e R s m args below meth c H locs cells slots Q (F0 m pc ls (v :: .ref a :: rest)) := by
  obtain ⟨fs, h1, h2, h3⟩ := h
  exact q_put C hp ty0 hty hnm h1 h2 hc hin hk hl hfin hd hn hfit hdg (fun H1 locs1 hp1 => kk _ H1 locs1 h3 hp1)
theorem q_nP (C : q_X p s m args meth c cc nL own Ts D g A) (hp : q_P D g A s.heap S H locs) {ci k : Nat} {Cn : String} {T : u_T} {N index : Nat} {ty : FieldType} {v : Value} {K : q_S → Prop} (h : q_pV ci k a v S K) (ty0 : Nat → FieldType) (hty : ∀ k, k < N → parseFieldDescriptor (T k).2.2.1 = some (ty0 k)) (hnm : ∀ a, a < N → ∀ b, b < N → a ≠ b → (T a).2.1 ≠ (T b).2.1) (hc : vwCl[ci]? = some (Cn, T, N)) (hin : ∀ w ∈ u_ws Cn T N, w ∈ Ts) (hk : k < N) (hl : Cond.fieldLinkNest own index (T k).1 (T k).2.1 (T k).2.2.1 RX7 ∈ q_nest) (hfin : (T k).2.2.2 = false) (hd : ty0 k = ty) (hn : narrow ty v = v) (hfit : fits ty v = true) (hdg : decode cc pc = .ok (.putfield index, 3)) (kk : ∀ (S1 : q_S) (H1 : Heap) (locs1 : List Loc), K S1 → q_P D g A s.heap S1 H1 locs1 → W p l e R s m args below meth c H1 locs1 cells slots Q (F0 m (pc + 3) ls rest)) : W p l e R s m args below meth c H locs cells slots Q (F0 m pc ls (v :: .ref a :: rest)) := by
  obtain ⟨fs, h1, h2, h3⟩ := h
  exact q_putN C hp ty0 hty hnm h1 h2 hc hin hk hl hfin hd hn hfit hdg (fun H1 locs1 hp1 => kk _ H1 locs1 h3 hp1)
theorem q_fP (C : q_X p s m args meth c cc nL own Ts D g A) (hp : q_P D g A s.heap S H locs) {ci k : Nat} {Cn : String} {T : u_T} {N index : Nat} {ty : FieldType} {v : Value} {K : q_S → Prop} (h : q_pV ci k a v S K) (hin2 : meth.name = "<init>") (ty0 : Nat → FieldType) (hty : ∀ k, k < N → parseFieldDescriptor (T k).2.2.1 = some (ty0 k)) (hnm : ∀ a, a < N → ∀ b, b < N → a ≠ b → (T a).2.1 ≠ (T b).2.1) (hc : vwCl[ci]? = some (Cn, T, N)) (hin : ∀ w ∈ u_ws Cn T N, w ∈ Ts) (hk : k < N) (hl : Cond.fieldLink own index (T k).1 (T k).2.1 (T k).2.2.1 ∈ Ts) (hfin : (T k).2.2.2 = true) (hdecl : (T k).1 = own) (hd : ty0 k = ty) (hn : narrow ty v = v) (hfit : fits ty v = true) (hdg : decode cc pc = .ok (.putfield index, 3)) (kk : ∀ (S1 : q_S) (H1 : Heap) (locs1 : List Loc), K S1 → q_P D g A s.heap S1 H1 locs1 → W p l e R s m args below meth c H1 locs1 cells slots Q (F0 m (pc + 3) ls rest)) : W p l e R s m args below meth c H locs cells slots Q (F0 m pc ls (v :: .ref a :: rest)) := by
  obtain ⟨fs, h1, h2, h3⟩ := h
  exact q_putF C hp ty0 hty hnm h1 h2 hc hin hk hl hfin hin2 hdecl hd hn hfit hdg (fun H1 locs1 hp1 => kk _ H1 locs1 h3 hp1)
theorem q_rLI (C : q_X p s m args meth c cc nL own Ts D g A) (hp : q_P D g A s.heap S H locs) {i : Int32} {K : Int32 → Prop} (h : q_lI a i S K) (hdg : decode cc pc = .ok (.iaload, 1)) (kk : ∀ x, K x → W p l e R s m args below meth c H locs cells slots Q (F0 m (pc + 1) ls (.int x :: rest))) : W p l e R s m args below meth c H locs cells slots Q (F0 m pc ls (.int i :: .ref a :: rest)) := by
  obtain ⟨n, f, h1, h2, h3⟩ := h
  exact q_iald C hp h1 h2 hdg (kk _ h3)
theorem q_rLZ (C : q_X p s m args meth c cc nL own Ts D g A) (hp : q_P D g A s.heap S H locs) {i : Int32} {K : Int32 → Prop} (h : q_lZ a i S K) (hdg : decode cc pc = .ok (.baload, 1)) (kk : ∀ x, K x → W p l e R s m args below meth c H locs cells slots Q (F0 m (pc + 1) ls (.int x :: rest))) : W p l e R s m args below meth c H locs cells slots Q (F0 m pc ls (.int i :: .ref a :: rest)) := by
  obtain ⟨n, f, h1, h2, h3⟩ := h
  exact q_zald C hp h1 h2 hdg (kk _ h3)
theorem q_rLV (C : q_X p s m args meth c cc nL own Ts D g A) (hp : q_P D g A s.heap S H locs) {i : Int32} {K : Option Nat → Prop} (h : q_lV a i S K) (hdg : decode cc pc = .ok (.aaload, 1)) (kk : ∀ x, K x → W p l e R s m args below meth c H locs cells slots Q (F0 m (pc + 1) ls (va_rf x :: rest))) : W p l e R s m args below meth c H locs cells slots Q (F0 m pc ls (.int i :: .ref a :: rest)) := by
  obtain ⟨n, f, h1, h2, h3⟩ := h
  exact q_aald C hp h1 h2 hdg (kk _ h3)
theorem q_rSI (C : q_X p s m args meth c cc nL own Ts D g A) (hp : q_P D g A s.heap S H locs) {i x : Int32} {K : q_S → Prop} (h : q_sI a i x S K) (hdg : decode cc pc = .ok (.iastore, 1)) (kk : ∀ (S1 : q_S) (H1 : Heap) (locs1 : List Loc), K S1 → q_P D g A s.heap S1 H1 locs1 → W p l e R s m args below meth c H1 locs1 cells slots Q (F0 m (pc + 1) ls rest)) : W p l e R s m args below meth c H locs cells slots Q (F0 m pc ls (.int x :: .int i :: .ref a :: rest)) := by
  obtain ⟨n, f, h1, h2, h3⟩ := h
  exact q_iast C hp h1 h2 hdg (fun H1 locs1 hp1 => kk _ H1 locs1 h3 hp1)
theorem q_rSZ (C : q_X p s m args meth c cc nL own Ts D g A) (hp : q_P D g A s.heap S H locs) {i x : Int32} {K : q_S → Prop} (h : q_sZ a i x S K) (hdg : decode cc pc = .ok (.bastore, 1)) (kk : ∀ (S1 : q_S) (H1 : Heap) (locs1 : List Loc), K S1 → q_P D g A s.heap S1 H1 locs1 → W p l e R s m args below meth c H1 locs1 cells slots Q (F0 m (pc + 1) ls rest)) : W p l e R s m args below meth c H locs cells slots Q (F0 m pc ls (.int x :: .int i :: .ref a :: rest)) := by
  obtain ⟨n, f, h1, h2, h3⟩ := h
  exact q_zast C hp h1 h2 hdg (fun H1 locs1 hp1 => kk _ H1 locs1 h3 hp1)
theorem q_rSV (C : q_X p s m args meth c cc nL own Ts D g A) (hp : q_P D g A s.heap S H locs) {i : Int32} {v : Nat} {K : q_S → Prop} (h : q_sV a i v S K) (hdg : decode cc pc = .ok (.aastore, 1)) (kk : ∀ (S1 : q_S) (H1 : Heap) (locs1 : List Loc), K S1 → q_P D g A s.heap S1 H1 locs1 → W p l e R s m args below meth c H1 locs1 cells slots Q (F0 m (pc + 1) ls rest)) : W p l e R s m args below meth c H locs cells slots Q (F0 m pc ls (.ref v :: .int i :: .ref a :: rest)) := by
  obtain ⟨n, f, vs, h1, h2, h3, h4⟩ := h
  exact q_aast C hp h1 h2 h3 hdg (fun H1 locs1 hp1 => kk _ H1 locs1 h4 hp1)
theorem q_rLN (C : q_X p s m args meth c cc nL own Ts D g A) (hp : q_P D g A s.heap S H locs) {K : Int32 → Prop} (h : q_ln a S K) (hdg : decode cc pc = .ok (.arraylength, 1)) (kk : ∀ x, K x → W p l e R s m args below meth c H locs cells slots Q (F0 m (pc + 1) ls (.int x :: rest))) : W p l e R s m args below meth c H locs cells slots Q (F0 m pc ls (.ref a :: rest)) := by
  obtain ⟨n, f, h1, h2⟩ := h
  exact q_alen C hp h1 hdg (kk _ h2)
theorem q_rCP (C : q_X p s m args meth c cc nL own Ts D g A) (hp : q_P D g A s.heap S H locs) (hls : ls.size = nL) {index b : Nat} {sp dp n : Int32} {K : q_S → Prop} (h : q_cp a sp b dp n S K) (hlink : Cond.methodLink own index arraycopyName ∈ Ts) (hnat : Cond.native arraycopyName ∈ Ts) (hstat : Cond.static arraycopyName ∈ Ts) (hini : Cond.initialized "java/lang/System" ∈ Ts) (hframes : 1 ≤ R.frames) (hlocals : (rest.map fun v => v.category).sum + (nativeFrameWords "java/lang/System" "arraycopy" 5 + 11) ≤ R.locals) (hdg : decode cc pc = .ok (.invokestatic index, 3)) (kk : ∀ (S1 : q_S) (H1 : Heap) (locs1 : List Loc), K S1 → q_P D g A s.heap S1 H1 locs1 → W p l e R s m args below meth c H1 locs1 cells slots Q (F0 m (pc + 3) ls rest)) : W p l e R s m args below meth c H locs cells slots Q (F0 m pc ls (.int n :: .int dp :: .ref b :: .int sp :: .ref a :: rest)) := by
  obtain ⟨n0, f, rfl, h1, h2, h3, h4, h5, h6, h7⟩ := h
  exact q_copy C hp hls h1 hlink hnat hstat hini h2 h3 h4 h5 h6 hframes hlocals hdg (fun H1 locs1 hp1 => kk _ H1 locs1 h7 hp1)
theorem q_rNO (C : q_X p s m args meth c cc nL own Ts D g A) (hp : q_P D g A s.heap S H locs) {ci : Nat} {Cn : String} {T : u_T} {N index : Nat} {fs : List Value} {K : Nat → q_S → Prop} (h : q_nC (kO ci fs) S K) (ty : Nat → FieldType) (hty : ∀ k, k < N → parseFieldDescriptor (T k).2.2.1 = some (ty k)) (hc : vwCl[ci]? = some (Cn, T, N)) (hin : ∀ w ∈ u_ws Cn T N, w ∈ Ts) (hcl : Cond.classLink own index Cn ∈ Ts) (hinst : Cond.instantiable Cn N ∈ Ts) (hini : Cond.initialized Cn ∈ Ts) (hfs : ∀ j, j < N → defaultValue (ty j) = vp_V fs j) (hcells : cells + 1 ≤ R.cells) (hslots : slots + N ≤ R.slots) (hdg : decode cc pc = .ok (.new index, 3)) (kk : ∀ (q : Nat) (S1 : q_S) (H1 : Heap), K q S1 → q_P D g A s.heap S1 H1 locs → W p l e R s m args below meth c H1 locs (cells + 1) (slots + N) Q (F0 m (pc + 3) ls (.ref q :: rest))) : W p l e R s m args below meth c H locs cells slots Q (F0 m pc ls rest) :=
  q_new C hp ty hty hc hin hcl hinst hini hfs hcells hslots hdg (fun q H1 hq hp1 => kk q _ H1 (h q hq) hp1)
theorem q_rNI (C : q_X p s m args meth c cc nL own Ts D g A) (hp : q_P D g A s.heap S H locs) {n : Int32} {N' : Nat} {K : Nat → q_S → Prop} (h : q_nC (kI N' (fun _ => 0)) S K) (harr : Cond.arrayClass .int ∈ Ts) (hn : ¬ n < 0) (hN : n.toNatClampNeg = N') (hbytes : N' * 4 ≤ 536870912) (hcells : cells + 1 ≤ R.cells) (hslots : slots + N' ≤ R.slots) (hdg : decode cc pc = .ok (.newarray .int, 2)) (kk : ∀ (q : Nat) (S1 : q_S) (H1 : Heap), K q S1 → q_P D g A s.heap S1 H1 locs → W p l e R s m args below meth c H1 locs (cells + 1) (slots + N') Q (F0 m (pc + 2) ls (.ref q :: rest))) : W p l e R s m args below meth c H locs cells slots Q (F0 m pc ls (.int n :: rest)) :=
  q_newI C hp harr hn hN hbytes hcells hslots hdg (fun q H1 hq hp1 => kk q _ H1 (h q hq) hp1)
theorem q_rNZ (C : q_X p s m args meth c cc nL own Ts D g A) (hp : q_P D g A s.heap S H locs) {n : Int32} {N' : Nat} {K : Nat → q_S → Prop} (h : q_nC (kZ N' (fun _ => 0)) S K) (harr : Cond.arrayClass .boolean ∈ Ts) (hn : ¬ n < 0) (hN : n.toNatClampNeg = N') (hbytes : N' * 1 ≤ 536870912) (hcells : cells + 1 ≤ R.cells) (hslots : slots + N' ≤ R.slots) (hdg : decode cc pc = .ok (.newarray .boolean, 2)) (kk : ∀ (q : Nat) (S1 : q_S) (H1 : Heap), K q S1 → q_P D g A s.heap S1 H1 locs → W p l e R s m args below meth c H1 locs (cells + 1) (slots + N') Q (F0 m (pc + 2) ls (.ref q :: rest))) : W p l e R s m args below meth c H locs cells slots Q (F0 m pc ls (.int n :: rest)) :=
  q_newZ C hp harr hn hN hbytes hcells hslots hdg (fun q H1 hq hp1 => kk q _ H1 (h q hq) hp1)
theorem q_rNV (C : q_X p s m args meth c cc nL own Ts D g A) (hp : q_P D g A s.heap S H locs) {n : Int32} {N' index : Nat} {K : Nat → q_S → Prop} (h : q_nC (kV N' (fun _ => none)) S K) (hcl : Cond.classLink own index RX6 ∈ Ts) (hn : ¬ n < 0) (hN : n.toNatClampNeg = N') (hbytes : N' * 4 ≤ 536870912) (hcells : cells + 1 ≤ R.cells) (hslots : slots + N' ≤ R.slots) (hdg : decode cc pc = .ok (.anewarray index, 3)) (kk : ∀ (q : Nat) (S1 : q_S) (H1 : Heap), K q S1 → q_P D g A s.heap S1 H1 locs → W p l e R s m args below meth c H1 locs (cells + 1) (slots + N') Q (F0 m (pc + 3) ls (.ref q :: rest))) : W p l e R s m args below meth c H locs cells slots Q (F0 m pc ls (.int n :: rest)) :=
  q_newV C hp hcl hn hN hbytes hcells hslots hdg (fun q H1 hq hp1 => kk q _ H1 (h q hq) hp1)
theorem q_finI0 (C : q_X p s m args meth c cc nL own Ts D g A) (hp : q_P D g A s.heap S H locs) {mc ms : Nat} {av : Array Value} {K : Int32 → q_S → Prop} (hr : va_Run p l e R s m args below meth c H locs cells slots mc ms (F0 m pc ls st0) rest (va_Qi K (q_B D g (q_AS S H.size)) (q_AS S H.size) av) (q_AS S H.size)) (h1 : mc = 0) (h2 : ms = 0)
    (kk : ∀ (r : Int32) (u : q_S) (H1 : Heap) (locs1 : List Loc), K r u → q_P D g A s.heap u H1 locs1 → W p l e R s m args below meth c H1 locs1 cells slots Q (F0 m (pc + 3) ls (.int r :: rest))) : W p l e R s m args below meth c H locs cells slots Q (F0 m pc ls st0) := by
  subst h1; subst h2
  exact q_finI C hp hr kk
theorem q_finV0 (C : q_X p s m args meth c cc nL own Ts D g A) (hp : q_P D g A s.heap S H locs) {mc ms : Nat} {av : Array Value} {K : q_S → Prop} (hr : va_Run p l e R s m args below meth c H locs cells slots mc ms (F0 m pc ls st0) rest (va_Qv K (q_B D g (q_AS S H.size)) (q_AS S H.size) av) (q_AS S H.size)) (h1 : mc = 0) (h2 : ms = 0)
    (kk : ∀ (u : q_S) (H1 : Heap) (locs1 : List Loc), K u → q_P D g A s.heap u H1 locs1 → W p l e R s m args below meth c H1 locs1 cells slots Q (F0 m (pc + 3) ls rest)) : W p l e R s m args below meth c H locs cells slots Q (F0 m pc ls st0) := by
  subst h1; subst h2
  exact q_finV C hp hr kk
theorem q_finQ0 (C : q_X p s m args meth c cc nL own Ts D g A) (hp : q_P D g A s.heap S H locs) {mc ms : Nat} {av : Array Value} {K : Option Nat → q_S → Prop} (hr : va_Run p l e R s m args below meth c H locs cells slots mc ms (F0 m pc ls st0) rest (va_Qq K (q_B D g (q_AS S H.size)) (q_AS S H.size) av) (q_AS S H.size)) (h1 : mc = 0) (h2 : ms = 0)
    (kk : ∀ (r : Option Nat) (u : q_S) (H1 : Heap) (locs1 : List Loc), K r u → q_P D g A s.heap u H1 locs1 → W p l e R s m args below meth c H1 locs1 cells slots Q (F0 m (pc + 3) ls (va_rf r :: rest))) : W p l e R s m args below meth c H locs cells slots Q (F0 m pc ls st0) := by
  subst h1; subst h2
  exact q_finQ C hp hr kk
end QK
