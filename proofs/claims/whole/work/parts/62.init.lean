section CINI
variable {S0 S : q_S} {L : List (Nat × q_C)}
def clsL (f : Nat → Int32) (p2 pb pa pt pf l2 l2b l2a l1 l1b l1a qm qh q1 qv a0 : Nat) : List (Nat × q_C) := [(p2, kO 2 [.ref pa, .ref pb]), (pb, kI 1280 (fun _ => 0)), (pa, kI 40 (fun _ => 0)), (pt, kO 3 [.ref pf, .ref p2, .int 0]), (pf, kI 280 (fun _ => 0)), (l2, kO 0 [.ref l2a, .ref l2b, .int 0, .int 0]), (l2b, kI 160 (fun _ => 0)), (l2a, kI 41 (fun _ => 0)), (l1, kO 0 [.ref l1a, .ref l1b, .int 0, .int 0]), (l1b, kI 160 (fun _ => 0)), (l1a, kI 41 (fun _ => 0)), (qm, kO 1 [.ref qh]), (qh, kI 200 f), (q1, kO 4 [.ref qv, .ref qm, .int 0, .int 0, .int 8]), (qv, kV 6 (fun _ => none)), (a0, kO 6 [.ref q1, .ref l1, .ref l2, .ref pt, .int 24, .int 4])]
theorem n_X7 {a0 : Nat} {Q : q_S → Prop} (h : Al S0 [(a0, kO 6 [.null, .null, .null, .null, .int 0, .int 0])] S) (hq : ∀ f p2 pb pa pt pf l2 l2b l2a l1 l1b l1a qm qh q1 qv S', (∀ k, k < 200 → f k = -100) → Al S0 (clsL f p2 pb pa pt pf l2 l2b l2a l1 l1b l1a qm qh q1 qv a0) S' → Q S') : wX7_init a0 Q S := by
  unfold wX7_init
  intro q1 z1
  refine n_X5 (al_new h z1 _) (fun qv qm qh f S1 hf h1 => ?_)
  refine al_pp [_, _, _, _] h1 (Nat.le_of_ble_eq_true rfl) (fun S2 h2 => ?_)
  intro l1 z2
  refine n_X1 (al_new h2 z2 _) (fun l1a l1b S3 h3 => ?_)
  refine al_pp [_, _, _, _, _, _, _] h3 (Nat.le_of_ble_eq_true rfl) (fun S4 h4 => ?_)
  intro l2 z3
  refine n_X1 (al_new h4 z3 _) (fun l2a l2b S5 h5 => ?_)
  refine al_pp [_, _, _, _, _, _, _, _, _, _] h5 (Nat.le_of_ble_eq_true rfl) (fun S6 h6 => ?_)
  intro pt z4
  refine n_X4 (al_new h6 z4 _) (fun pf p2 pa pb S7 h7 => ?_)
  refine al_pp [_, _, _, _, _, _, _, _, _, _, _, _, _, _, _] h7 (Nat.le_of_ble_eq_true rfl) (fun S8 h8 => ?_)
  refine al_pp [_, _, _, _, _, _, _, _, _, _, _, _, _, _, _] h8 (Nat.le_of_ble_eq_true rfl) (fun S9 h9 => ?_)
  refine al_pp [_, _, _, _, _, _, _, _, _, _, _, _, _, _, _] h9 (Nat.le_of_ble_eq_true rfl) (fun S10 h10 => ?_)
  exact hq f p2 pb pa pt pf l2 l2b l2a l1 l1b l1a qm qh q1 qv S10 hf h10
def mdlL (am m132 m133 m134 m135 m136 m137 m138 m139 m140 m142 m143 m144 m145 m146 m147 m148 m149 m150 m151 m154 m157 m158 m159 m160 m162 m163 m164 m165 : Nat) : List (Nat × q_C) := (am, kO 7 [.int 0, .int 0, .ref m132, .ref m133, .ref m134, .ref m135, .ref m136, .ref m137, .ref m138, .ref m139, .ref m140, .int 8, .ref m142, .ref m143, .ref m144, .ref m145, .ref m146, .ref m147, .ref m148, .ref m149, .ref m150, .ref m151, .int 24, .int 4, .ref m154, .int 0, .int 0, .ref m157, .ref m158, .ref m159, .ref m160, .int 0, .ref m162, .ref m163, .ref m164, .ref m165]) :: [(m165, kZ 40 (fun _ => 0)), (m164, kI 40 (fun _ => 0)), (m163, kI 40 (fun _ => 0)), (m162, kI 40 (fun _ => 0)), (m160, kZ 40 (fun _ => 0)), (m159, kI 40 (fun _ => 0)), (m158, kI 40 (fun _ => 0)), (m157, kI 40 (fun _ => 0)), (m154, kI 41 (fun _ => 0)), (m151, kI 8960 (fun _ => 0)), (m150, kI 280 (fun _ => 0)), (m149, kI 280 (fun _ => 0)), (m148, kI 280 (fun _ => 0)), (m147, kI 280 (fun _ => 0)), (m146, kI 280 (fun _ => 0)), (m145, kI 280 (fun _ => 0)), (m144, kI 280 (fun _ => 0)), (m143, kI 7 (fun _ => 0)), (m142, kZ 7 (fun _ => 0)), (m140, kI 6 (fun _ => 0)), (m139, kI 6 (fun _ => 0)), (m138, kI 200 (fun _ => 0)), (m137, kZ 200 (fun _ => 0)), (m136, kI 1920 (fun _ => 0)), (m135, kI 1920 (fun _ => 0)), (m134, kI 1920 (fun _ => 0)), (m133, kI 1920 (fun _ => 0)), (m132, kI 240 (fun _ => 0))]
theorem n_X8 {am : Nat} {Q : q_S → Prop} (h : Al S0 ((am, kO 7 [.int 0, .int 0, .null, .null, .null, .null, .null, .null, .null, .null, .null, .int 0, .null, .null, .null, .null, .null, .null, .null, .null, .null, .null, .int 0, .int 0, .null, .int 0, .int 0, .null, .null, .null, .null, .int 0, .null, .null, .null, .null]) :: L) S) (hq : ∀ m132 m133 m134 m135 m136 m137 m138 m139 m140 m142 m143 m144 m145 m146 m147 m148 m149 m150 m151 m154 m157 m158 m159 m160 m162 m163 m164 m165 S', Al S0 (mdlL am m132 m133 m134 m135 m136 m137 m138 m139 m140 m142 m143 m144 m145 m146 m147 m148 m149 m150 m151 m154 m157 m158 m159 m160 m162 m163 m164 m165 ++ L) S' → Q S') : wX8_init am Q S := by
  unfold wX8_init
  refine al_f h (Nat.le_of_ble_eq_true rfl) (fun m132 S1 h1 => ?_)
  refine al_f h1 (Nat.le_of_ble_eq_true rfl) (fun m133 S2 h2 => ?_)
  refine al_f h2 (Nat.le_of_ble_eq_true rfl) (fun m134 S3 h3 => ?_)
  refine al_f h3 (Nat.le_of_ble_eq_true rfl) (fun m135 S4 h4 => ?_)
  refine al_f h4 (Nat.le_of_ble_eq_true rfl) (fun m136 S5 h5 => ?_)
  have g5 : Al S0 ((am, kO 7 [.int 0, .int 0, .ref m132, .ref m133, .ref m134, .ref m135, .ref m136, .null, .null, .null, .null, .int 0, .null, .null, .null, .null, .null, .null, .null, .null, .null, .null, .int 0, .int 0, .null, .int 0, .int 0, .null, .null, .null, .null, .int 0, .null, .null, .null, .null]) :: (m136, kI 1920 (fun _ => 0)) :: (m135, kI 1920 (fun _ => 0)) :: (m134, kI 1920 (fun _ => 0)) :: (m133, kI 1920 (fun _ => 0)) :: (m132, kI 240 (fun _ => 0)) :: L) S5 := h5
  refine al_f g5 (Nat.le_of_ble_eq_true rfl) (fun m137 S6 h6 => ?_)
  refine al_f h6 (Nat.le_of_ble_eq_true rfl) (fun m138 S7 h7 => ?_)
  refine al_f h7 (Nat.le_of_ble_eq_true rfl) (fun m139 S8 h8 => ?_)
  refine al_f h8 (Nat.le_of_ble_eq_true rfl) (fun m140 S9 h9 => ?_)
  refine al_p h9 (Nat.le_of_ble_eq_true rfl) (fun S10 h10 => ?_)
  refine al_f h10 (Nat.le_of_ble_eq_true rfl) (fun m142 S11 h11 => ?_)
  have g11 : Al S0 ((am, kO 7 [.int 0, .int 0, .ref m132, .ref m133, .ref m134, .ref m135, .ref m136, .ref m137, .ref m138, .ref m139, .ref m140, .int 8, .ref m142, .null, .null, .null, .null, .null, .null, .null, .null, .null, .int 0, .int 0, .null, .int 0, .int 0, .null, .null, .null, .null, .int 0, .null, .null, .null, .null]) :: (m142, kZ 7 (fun _ => 0)) :: (m140, kI 6 (fun _ => 0)) :: (m139, kI 6 (fun _ => 0)) :: (m138, kI 200 (fun _ => 0)) :: (m137, kZ 200 (fun _ => 0)) :: (m136, kI 1920 (fun _ => 0)) :: (m135, kI 1920 (fun _ => 0)) :: (m134, kI 1920 (fun _ => 0)) :: (m133, kI 1920 (fun _ => 0)) :: (m132, kI 240 (fun _ => 0)) :: L) S11 := h11
  refine al_f g11 (Nat.le_of_ble_eq_true rfl) (fun m143 S12 h12 => ?_)
  refine al_f h12 (Nat.le_of_ble_eq_true rfl) (fun m144 S13 h13 => ?_)
  refine al_f h13 (Nat.le_of_ble_eq_true rfl) (fun m145 S14 h14 => ?_)
  refine al_f h14 (Nat.le_of_ble_eq_true rfl) (fun m146 S15 h15 => ?_)
  refine al_f h15 (Nat.le_of_ble_eq_true rfl) (fun m147 S16 h16 => ?_)
  have g16 : Al S0 ((am, kO 7 [.int 0, .int 0, .ref m132, .ref m133, .ref m134, .ref m135, .ref m136, .ref m137, .ref m138, .ref m139, .ref m140, .int 8, .ref m142, .ref m143, .ref m144, .ref m145, .ref m146, .ref m147, .null, .null, .null, .null, .int 0, .int 0, .null, .int 0, .int 0, .null, .null, .null, .null, .int 0, .null, .null, .null, .null]) :: (m147, kI 280 (fun _ => 0)) :: (m146, kI 280 (fun _ => 0)) :: (m145, kI 280 (fun _ => 0)) :: (m144, kI 280 (fun _ => 0)) :: (m143, kI 7 (fun _ => 0)) :: (m142, kZ 7 (fun _ => 0)) :: (m140, kI 6 (fun _ => 0)) :: (m139, kI 6 (fun _ => 0)) :: (m138, kI 200 (fun _ => 0)) :: (m137, kZ 200 (fun _ => 0)) :: (m136, kI 1920 (fun _ => 0)) :: (m135, kI 1920 (fun _ => 0)) :: (m134, kI 1920 (fun _ => 0)) :: (m133, kI 1920 (fun _ => 0)) :: (m132, kI 240 (fun _ => 0)) :: L) S16 := h16
  refine al_f g16 (Nat.le_of_ble_eq_true rfl) (fun m148 S17 h17 => ?_)
  refine al_f h17 (Nat.le_of_ble_eq_true rfl) (fun m149 S18 h18 => ?_)
  refine al_f h18 (Nat.le_of_ble_eq_true rfl) (fun m150 S19 h19 => ?_)
  refine al_f h19 (Nat.le_of_ble_eq_true rfl) (fun m151 S20 h20 => ?_)
  refine al_p h20 (Nat.le_of_ble_eq_true rfl) (fun S21 h21 => ?_)
  refine al_p h21 (Nat.le_of_ble_eq_true rfl) (fun S22 h22 => ?_)
  refine al_f h22 (Nat.le_of_ble_eq_true rfl) (fun m154 S23 h23 => ?_)
  have g23 : Al S0 ((am, kO 7 [.int 0, .int 0, .ref m132, .ref m133, .ref m134, .ref m135, .ref m136, .ref m137, .ref m138, .ref m139, .ref m140, .int 8, .ref m142, .ref m143, .ref m144, .ref m145, .ref m146, .ref m147, .ref m148, .ref m149, .ref m150, .ref m151, .int 24, .int 4, .ref m154, .int 0, .int 0, .null, .null, .null, .null, .int 0, .null, .null, .null, .null]) :: (m154, kI 41 (fun _ => 0)) :: (m151, kI 8960 (fun _ => 0)) :: (m150, kI 280 (fun _ => 0)) :: (m149, kI 280 (fun _ => 0)) :: (m148, kI 280 (fun _ => 0)) :: (m147, kI 280 (fun _ => 0)) :: (m146, kI 280 (fun _ => 0)) :: (m145, kI 280 (fun _ => 0)) :: (m144, kI 280 (fun _ => 0)) :: (m143, kI 7 (fun _ => 0)) :: (m142, kZ 7 (fun _ => 0)) :: (m140, kI 6 (fun _ => 0)) :: (m139, kI 6 (fun _ => 0)) :: (m138, kI 200 (fun _ => 0)) :: (m137, kZ 200 (fun _ => 0)) :: (m136, kI 1920 (fun _ => 0)) :: (m135, kI 1920 (fun _ => 0)) :: (m134, kI 1920 (fun _ => 0)) :: (m133, kI 1920 (fun _ => 0)) :: (m132, kI 240 (fun _ => 0)) :: L) S23 := h23
  refine al_f g23 (Nat.le_of_ble_eq_true rfl) (fun m157 S24 h24 => ?_)
  refine al_f h24 (Nat.le_of_ble_eq_true rfl) (fun m158 S25 h25 => ?_)
  refine al_f h25 (Nat.le_of_ble_eq_true rfl) (fun m159 S26 h26 => ?_)
  refine al_f h26 (Nat.le_of_ble_eq_true rfl) (fun m160 S27 h27 => ?_)
  refine al_f h27 (Nat.le_of_ble_eq_true rfl) (fun m162 S28 h28 => ?_)
  have g28 : Al S0 ((am, kO 7 [.int 0, .int 0, .ref m132, .ref m133, .ref m134, .ref m135, .ref m136, .ref m137, .ref m138, .ref m139, .ref m140, .int 8, .ref m142, .ref m143, .ref m144, .ref m145, .ref m146, .ref m147, .ref m148, .ref m149, .ref m150, .ref m151, .int 24, .int 4, .ref m154, .int 0, .int 0, .ref m157, .ref m158, .ref m159, .ref m160, .int 0, .ref m162, .null, .null, .null]) :: (m162, kI 40 (fun _ => 0)) :: (m160, kZ 40 (fun _ => 0)) :: (m159, kI 40 (fun _ => 0)) :: (m158, kI 40 (fun _ => 0)) :: (m157, kI 40 (fun _ => 0)) :: (m154, kI 41 (fun _ => 0)) :: (m151, kI 8960 (fun _ => 0)) :: (m150, kI 280 (fun _ => 0)) :: (m149, kI 280 (fun _ => 0)) :: (m148, kI 280 (fun _ => 0)) :: (m147, kI 280 (fun _ => 0)) :: (m146, kI 280 (fun _ => 0)) :: (m145, kI 280 (fun _ => 0)) :: (m144, kI 280 (fun _ => 0)) :: (m143, kI 7 (fun _ => 0)) :: (m142, kZ 7 (fun _ => 0)) :: (m140, kI 6 (fun _ => 0)) :: (m139, kI 6 (fun _ => 0)) :: (m138, kI 200 (fun _ => 0)) :: (m137, kZ 200 (fun _ => 0)) :: (m136, kI 1920 (fun _ => 0)) :: (m135, kI 1920 (fun _ => 0)) :: (m134, kI 1920 (fun _ => 0)) :: (m133, kI 1920 (fun _ => 0)) :: (m132, kI 240 (fun _ => 0)) :: L) S28 := h28
  refine al_f g28 (Nat.le_of_ble_eq_true rfl) (fun m163 S29 h29 => ?_)
  refine al_f h29 (Nat.le_of_ble_eq_true rfl) (fun m164 S30 h30 => ?_)
  refine al_f h30 (Nat.le_of_ble_eq_true rfl) (fun m165 S31 h31 => ?_)
  have g31 : Al S0 ((am, kO 7 [.int 0, .int 0, .ref m132, .ref m133, .ref m134, .ref m135, .ref m136, .ref m137, .ref m138, .ref m139, .ref m140, .int 8, .ref m142, .ref m143, .ref m144, .ref m145, .ref m146, .ref m147, .ref m148, .ref m149, .ref m150, .ref m151, .int 24, .int 4, .ref m154, .int 0, .int 0, .ref m157, .ref m158, .ref m159, .ref m160, .int 0, .ref m162, .ref m163, .ref m164, .ref m165]) :: (m165, kZ 40 (fun _ => 0)) :: (m164, kI 40 (fun _ => 0)) :: (m163, kI 40 (fun _ => 0)) :: (m162, kI 40 (fun _ => 0)) :: (m160, kZ 40 (fun _ => 0)) :: (m159, kI 40 (fun _ => 0)) :: (m158, kI 40 (fun _ => 0)) :: (m157, kI 40 (fun _ => 0)) :: (m154, kI 41 (fun _ => 0)) :: (m151, kI 8960 (fun _ => 0)) :: (m150, kI 280 (fun _ => 0)) :: (m149, kI 280 (fun _ => 0)) :: (m148, kI 280 (fun _ => 0)) :: (m147, kI 280 (fun _ => 0)) :: (m146, kI 280 (fun _ => 0)) :: (m145, kI 280 (fun _ => 0)) :: (m144, kI 280 (fun _ => 0)) :: (m143, kI 7 (fun _ => 0)) :: (m142, kZ 7 (fun _ => 0)) :: (m140, kI 6 (fun _ => 0)) :: (m139, kI 6 (fun _ => 0)) :: (m138, kI 200 (fun _ => 0)) :: (m137, kZ 200 (fun _ => 0)) :: (m136, kI 1920 (fun _ => 0)) :: (m135, kI 1920 (fun _ => 0)) :: (m134, kI 1920 (fun _ => 0)) :: (m133, kI 1920 (fun _ => 0)) :: (m132, kI 240 (fun _ => 0)) :: L) S31 := h31
  exact hq m132 m133 m134 m135 m136 m137 m138 m139 m140 m142 m143 m144 m145 m146 m147 m148 m149 m150 m151 m154 m157 m158 m159 m160 m162 m163 m164 m165 S31 g31
/-- the address of number i: what stands in L where i stands in I -/
def adZ : List Nat → List (Nat × q_C) → Nat → Nat
  | j :: I, p :: L, i => if i = j then p.1 else adZ I L i
  | _, _, _ => 0
theorem adZ_mem : ∀ (I : List Nat) (L : List (Nat × q_C)), I.length = L.length → ∀ i, i ∈ I → adZ I L i ∈ L.map Prod.fst
  | [], _, _, i, h => absurd h (by simp)
  | _ :: _, [], h, _, _ => absurd h (by simp)
  | j :: I, p :: L, h, i, hi => by
    show (if i = j then p.1 else adZ I L i) ∈ p.1 :: L.map Prod.fst
    rw [List.mem_cons]
    by_cases e : i = j
    · rw [if_pos e]; exact Or.inl rfl
    · rw [if_neg e]
      refine Or.inr (adZ_mem I L (by simpa using h) i ?_)
      rcases List.mem_cons.mp hi with c | c
      · exact absurd c e
      · exact c
theorem adZ_inj : ∀ (I : List Nat) (L : List (Nat × q_C)), I.length = L.length → (L.map Prod.fst).Nodup → ∀ i k, i ∈ I → k ∈ I → adZ I L i = adZ I L k → i = k
  | [], _, _, _, i, _, h, _, _ => absurd h (by simp)
  | _ :: _, [], h, _, _, _, _, _, _ => absurd h (by simp)
  | j :: I, p :: L, h, hn, i, k, hi, hk, he => by
    have he' : (if i = j then p.1 else adZ I L i) = (if k = j then p.1 else adZ I L k) := he
    have hl : I.length = L.length := by simpa using h
    rw [List.map_cons, List.nodup_cons] at hn
    by_cases e : i = j
    · by_cases g : k = j
      · rw [e, g]
      · rw [if_pos e, if_neg g] at he'
        exfalso
        refine hn.1 ?_
        rw [he']
        refine adZ_mem I L hl k ?_
        rcases List.mem_cons.mp hk with c | c
        · exact absurd c g
        · exact c
    · have hi' : i ∈ I := by
        rcases List.mem_cons.mp hi with c | c
        · exact absurd c e
        · exact c
      by_cases g : k = j
      · rw [if_neg e, if_pos g] at he'
        exfalso
        refine hn.1 ?_
        rw [← he']
        exact adZ_mem I L hl i hi'
      · rw [if_neg e, if_neg g] at he'
        refine adZ_inj I L hl hn.2 i k hi' ?_ he'
        rcases List.mem_cons.mp hk with c | c
        · exact absurd c g
        · exact c
def IDS : List Nat := [128, 165, 164, 163, 162, 160, 159, 158, 157, 154, 151, 150, 149, 148, 147, 146, 145, 144, 143, 142, 140, 139, 138, 137, 136, 135, 134, 133, 132, 96, 98, 97, 94, 95, 8, 10, 9, 5, 7, 6, 3, 4, 1, 2, 0]
def md0 : Nat → Bool := fun _ => false
def A0 (f : Nat → Int32) : q_St := fun i => if i = 0 then (fun k => if k = 4 then 24 else if k = 5 then 4 else 0) else if i = 1 then (fun k => if k = 4 then 8 else 0) else if i = 4 then f else if i = 128 then (fun k => if k = 11 then 8 else if k = 22 then 24 else if k = 23 then 4 else 0) else (fun _ => 0)
theorem ids_of {i : Nat} (h : q_V 0 md0 i) : i ∈ IDS := by
  unfold IDS
  rcases h with h | h | h | h | h | h
  · have : i = 0 ∨ i = 1 ∨ i = 2 ∨ i = 3 ∨ i = 4 ∨ i = 5 ∨ i = 6 ∨ i = 7 ∨ i = 8 ∨ i = 9 ∨ i = 10 := by omega
    rcases this with e | e | e | e | e | e | e | e | e | e | e <;> subst e <;> decide
  · exact absurd h.2 (by omega)
  · exact absurd h.2.2 (by unfold md0; simp)
  · have : i = 94 ∨ i = 95 ∨ i = 96 ∨ i = 97 ∨ i = 98 := by omega
    rcases this with e | e | e | e | e <;> subst e <;> decide
  · subst h; decide
  · unfold q_ma at h
    simp only [Bool.or_eq_true, beq_iff_eq] at h
    simp only [List.mem_cons]
    omega
theorem al_k {a : Nat} {x : q_C} (h : Al S0 L S) (k : Nat) (hk : L[k]? = some (a, x)) : S a = some x := h.1 (a, x) (List.mem_of_getElem? hk)
theorem rep_0 {f : Nat → Int32} {am m132 m133 m134 m135 m136 m137 m138 m139 m140 m142 m143 m144 m145 m146 m147 m148 m149 m150 m151 m154 m157 m158 m159 m160 m162 m163 m164 m165 p2 pb pa pt pf l2 l2b l2a l1 l1b l1a qm qh q1 qv a0 : Nat} (h : Al S0 (mdlL am m132 m133 m134 m135 m136 m137 m138 m139 m140 m142 m143 m144 m145 m146 m147 m148 m149 m150 m151 m154 m157 m158 m159 m160 m162 m163 m164 m165 ++ clsL f p2 pb pa pt pf l2 l2b l2a l1 l1b l1a qm qh q1 qv a0) S) : Rep (adZ IDS (mdlL am m132 m133 m134 m135 m136 m137 m138 m139 m140 m142 m143 m144 m145 m146 m147 m148 m149 m150 m151 m154 m157 m158 m159 m160 m162 m163 m164 m165 ++ clsL f p2 pb pa pt pf l2 l2b l2a l1 l1b l1a qm qh q1 qv a0)) 0 md0 (A0 f) S := by
  have hc : ∀ v : Nat, (if v < 0 then some (adZ IDS (mdlL am m132 m133 m134 m135 m136 m137 m138 m139 m140 m142 m143 m144 m145 m146 m147 m148 m149 m150 m151 m154 m157 m158 m159 m160 m162 m163 m164 m165 ++ clsL f p2 pb pa pt pf l2 l2b l2a l1 l1b l1a qm qh q1 qv a0) (16 + 4 * v)) else none) = none := fun v => if_neg (Nat.not_lt_zero v)
  refine ⟨by omega, fun v hv => absurd hv (by unfold md0; simp), fun i j hi hj e => adZ_inj IDS _ rfl h.2.1 i j (ids_of hi) (ids_of hj) e, fun i hi => ?_⟩
  have hm := ids_of hi
  unfold IDS at hm
  simp only [List.mem_cons, List.not_mem_nil, or_false] at hm
  rcases hm with e | e | e | e | e | e | e | e | e | e | e | e | e | e | e | e | e | e | e | e | e | e | e | e | e | e | e | e | e | e | e | e | e | e | e | e | e | e | e | e | e | e | e | e | e
  · subst e; exact al_k h 0 rfl
  · subst e; exact al_k h 1 rfl
  · subst e; exact al_k h 2 rfl
  · subst e; exact al_k h 3 rfl
  · subst e; exact al_k h 4 rfl
  · subst e; exact al_k h 5 rfl
  · subst e; exact al_k h 6 rfl
  · subst e; exact al_k h 7 rfl
  · subst e; exact al_k h 8 rfl
  · subst e; exact al_k h 9 rfl
  · subst e; exact al_k h 10 rfl
  · subst e; exact al_k h 11 rfl
  · subst e; exact al_k h 12 rfl
  · subst e; exact al_k h 13 rfl
  · subst e; exact al_k h 14 rfl
  · subst e; exact al_k h 15 rfl
  · subst e; exact al_k h 16 rfl
  · subst e; exact al_k h 17 rfl
  · subst e; exact al_k h 18 rfl
  · subst e; exact al_k h 19 rfl
  · subst e; exact al_k h 20 rfl
  · subst e; exact al_k h 21 rfl
  · subst e; exact al_k h 22 rfl
  · subst e; exact al_k h 23 rfl
  · subst e; exact al_k h 24 rfl
  · subst e; exact al_k h 25 rfl
  · subst e; exact al_k h 26 rfl
  · subst e; exact al_k h 27 rfl
  · subst e; exact al_k h 28 rfl
  · subst e; exact al_k h 29 rfl
  · subst e; exact al_k h 30 rfl
  · subst e; exact al_k h 31 rfl
  · subst e; exact al_k h 32 rfl
  · subst e; exact al_k h 33 rfl
  · subst e; exact al_k h 34 rfl
  · subst e; exact al_k h 35 rfl
  · subst e; exact al_k h 36 rfl
  · subst e; exact al_k h 37 rfl
  · subst e; exact al_k h 38 rfl
  · subst e; exact al_k h 39 rfl
  · subst e; exact al_k h 40 rfl
  · subst e; exact al_k h 41 rfl
  · subst e; exact al_k h 42 rfl
  · subst e
    refine (al_k h 43 rfl).trans ?_
    show some (kV 6 (fun _ => none)) = some (kV 6 (fun v => if v < 0 then some (adZ IDS (mdlL am m132 m133 m134 m135 m136 m137 m138 m139 m140 m142 m143 m144 m145 m146 m147 m148 m149 m150 m151 m154 m157 m158 m159 m160 m162 m163 m164 m165 ++ clsL f p2 pb pa pt pf l2 l2b l2a l1 l1b l1a qm qh q1 qv a0) (16 + 4 * v)) else none))
    simp only [hc]
  · subst e; exact al_k h 44 rfl
theorem corr_0 {f : Nat → Int32} (hf : ∀ k, k < 200 → f k = -100) : Corr 0 md0 0 (A0 f) := by
  have z : ∀ i k, 129 ≤ i → A0 f i k = 0 := fun i k hi => by
    unfold A0
    rw [if_neg (by omega), if_neg (by omega), if_neg (by omega), if_neg (by omega)]
  have hc : ∀ v b, cnt (A0 f) v b = 0 := fun v b => by unfold cnt; rw [z _ _ (by omega)]; rfl
  refine ⟨⟨by omega, by omega, rfl, rfl, rfl, rfl, rfl⟩, ⟨fun v b hv => absurd hv (by omega), fun v b k w hv => absurd hv (by omega), fun v b _ _ => ⟨by rw [hc]; omega, by rw [hc, z _ _ (by omega)]; rfl⟩, fun v b _ _ _ => hc v b, fun v b k w _ _ _ _ _ => z _ _ (by omega)⟩, fun v b k _ _ hk => absurd hk (by rw [hc]; omega), fun b k hb hk => Or.inl ⟨z _ _ (by omega), hf _ (by omega)⟩, ⟨fun v hv => absurd hv (by omega), fun v _ => ?_, fun v _ _ => ⟨z _ _ (by omega), z _ _ (by omega)⟩⟩, ⟨rfl, rfl, by show 8 ≤ (24 : Int32).toInt; decide, by show (24 : Int32).toInt ≤ 60; decide, by show 1 ≤ (4 : Int32).toInt; decide, by show (4 : Int32).toInt ≤ 12; decide⟩, fun v _ => ⟨fun h => absurd h (by unfold md0; simp), fun _ => z _ _ (by omega)⟩⟩
  rw [z _ _ (by omega), z _ _ (by omega)]
  decide
end CINI
