theorem inv_0 : q_nC (kO 6 [.null, .null, .null, .null, .int 0, .int 0]) (fun _ => none) (fun ax S1 => wX7_init ax (fun S2 => q_nC (kO 7 [.int 0, .int 0, .null, .null, .null, .null, .null, .null, .null, .null, .null, .int 0, .null, .null, .null, .null, .null, .null, .null, .null, .null, .null, .int 0, .int 0, .null, .int 0, .int 0, .null, .null, .null, .null, .int 0, .null, .null, .null, .null]) S2 (fun am S3 => wX8_init am (fun S4 => InvS ax am S4) S3)) S1) := by
  intro ax z
  refine n_X7 (al_new (al_0 _) z _) (fun f p2 pb pa pt pf l2 l2b l2a l1 l1b l1a qm qh q1 qv S2 hf h2 => ?_)
  intro am z2
  refine n_X8 (al_new h2 z2 _) (fun m132 m133 m134 m135 m136 m137 m138 m139 m140 m142 m143 m144 m145 m146 m147 m148 m149 m150 m151 m154 m157 m158 m159 m160 m162 m163 m164 m165 S4 h4 => ?_)
  exact ⟨_, 0, md0, 0, A0 f, rep_0 h4, corr_0 hf, rfl, rfl⟩
theorem kn_of {s : State} {b : Nat} (hts : ∀ w ∈ lw_tbl, w.before #[Value.ref b] s = true) : ∃ (D : va_G) (g : q_A), va_K D vwCl (q_T g) s ∧ q_N s := by
  obtain ⟨c1, i1, k1⟩ := u_known hts inX1 (hts _ kwi_1)
  obtain ⟨c2, i2, k2⟩ := u_known hts inX2 (hts _ kwi_2)
  obtain ⟨c3, i3, k3⟩ := u_known hts inX3 (hts _ kwi_3)
  obtain ⟨c4, i4, k4⟩ := u_known hts inX4 (hts _ kwi_4)
  obtain ⟨c5, i5, k5⟩ := u_known hts inX5 (hts _ kwi_5)
  obtain ⟨c6, i6, k6⟩ := u_known hts inX6 (hts _ kwi_6)
  obtain ⟨c7, i7, k7⟩ := u_known hts inX7 (hts _ kwi_7)
  obtain ⟨c8, i8, k8⟩ := u_known hts inX8 (hts _ kwi_8)
  obtain ⟨a1, ka1, comp1, f1, f2, f3⟩ := Cond.arrayClass_spec (hts _ kwa_i)
  obtain ⟨b1, kb1, comp2, g1, g2, g3⟩ := Cond.arrayClass_spec (hts _ kwa_z)
  obtain ⟨comp3, d1, kd1, e1, -, e3, e4, e5⟩ := Cond.arrayOver_spec (hts _ kwa_v)
  refine ⟨(fun c => match c with | 0 => c1 | 1 => c2 | 2 => c3 | 3 => c4 | 4 => c5 | 5 => c6 | 6 => c7 | _ => c8, fun c => match c with | 0 => i1 | 1 => i2 | 2 => i3 | 3 => i4 | 4 => i5 | 5 => i6 | 6 => i7 | _ => i8), (a1, b1, d1), ⟨fun c q hq => ?_, fun k q hq => ?_⟩, fun w hw => va_Nw.of (kw_tabs w hw) (hts w (kw_nest w hw)), va_AO.of (hts _ kwa_v)⟩
  · match c, hq with
    | 0, hq => cases hq; exact k1
    | 1, hq => cases hq; exact k2
    | 2, hq => cases hq; exact k3
    | 3, hq => cases hq; exact k4
    | 4, hq => cases hq; exact k5
    | 5, hq => cases hq; exact k6
    | 6, hq => cases hq; exact k7
    | 7, hq => cases hq; exact k8
    | c + 8, hq => cases hq
  · match k, hq with
    | 0, hq => cases hq; exact ⟨fun n z => ⟨(fun k h => by cases h), ka1, f2, comp1, f3⟩, f1⟩
    | 1, hq => cases hq; exact ⟨fun n z => ⟨(fun k h => by cases h), kb1, g2, comp2, g3⟩, g1⟩
    | 2, hq => cases hq; exact ⟨fun n z => ⟨(fun k h => by cases h), kd1, e3, comp3, e4⟩, kd1, comp3, e3, e4, e1, e5⟩
    | k + 3, hq => cases hq
set_option maxHeartbeats 4000000 in
set_option maxRecDepth 100000 in
theorem law_go {p : Program} {e : Env} {s : State} {m : MethodId} {below : List Frame} {meth : Method} {c : Code} (l : Launch) {b L : Nat} {xs : Nat → Int32} (hL : L ≤ 3584) (C0 : lw_At p s m meth c b L xs) {ls : Array Slot} (hl : q_l ls 4 [(0, .ref b)]) : W p l e room_1 s m #[Value.ref b] below meth c s.heap [] 0 0 (lw_Z below #[Value.ref b] s) (F0 m 0 ls []) := by
  obtain ⟨hx, hb, hr, hml, hown, hts, hX, hbl, hlocks, -⟩ := C0
  obtain ⟨D, g, hK, hN⟩ := kn_of hts
  have C : q_X p s m #[Value.ref b] meth c cL_law 4 RL wsL_law D g (fun q => s.heap.size ≤ q) := ⟨hx, hb, hml, hown, fun w hw => hts w (wsL_law_in w hw), hlocks, hK, hN, fun q h => h⟩
  have hp : q_P D g (fun q => s.heap.size ≤ q) s.heap (fun _ => none) s.heap [] := ⟨⟨[], fun a => by simp, fun k q hq => absurd hq (by simp [va_pl]), fun i j p q hq => absurd hq (by simp [va_pl]), fun k q hq => absurd hq (by simp [va_pl])⟩, va_S.rf⟩
  have h := inv_0
  refine q_rNO (N := 6) C hp h tyX7 tyX7_ok rfl inlX7 kcL_7 ktL_7 kiL_7 (fun j hj => by match j, hj with | 0, _ => rfl | 1, _ => rfl | 2, _ => rfl | 3, _ => rfl | 4, _ => rfl | 5, _ => rfl | j + 6, hj => exact absurd hj (by omega)) (Nat.le_of_ble_eq_true rfl) (Nat.le_of_ble_eq_true rfl) dL_law_0 (fun ax S1 H h hp => ?_)
  refine lv_dup hx hb dL_law_3 rfl ?_
  refine q_finV C hp (q_runI (As := []) (rest := [.ref ax]) C hp (RX7_init l D g _ ax _ h _) (cwI 0 C.2.2.2.2.1 gL_law_X7_init rfl rfl rfl (C.2.2.2.2.1 _ kiL_7) (C.2.2.2.2.1 _ klL_7) (C.2.2.2.2.1 _ knL_7) rfl (by decide +kernel) ⟨(Nat.le_of_ble_eq_true rfl), (Nat.le_of_ble_eq_true rfl)⟩) rfl hl.1.1 rfl (Nat.le_of_ble_eq_true rfl) dL_law_4 ⟨(Nat.le_of_ble_eq_true rfl), (Nat.le_of_ble_eq_true rfl)⟩) (fun S2 H locs h hp => ?_)
  refine q_astn (o := some ax) (lv' := [(1, .ref ax), (0, .ref b)]) hx hb dL_law_7 rfl hl (by decide) rfl (fun ls hl => ?_)
  refine q_rNO (N := 36) C hp h tyX8 tyX8_ok rfl inlX8 kcL_8 ktL_8 kiL_8 (fun j hj => by match j, hj with | 0, _ => rfl | 1, _ => rfl | 2, _ => rfl | 3, _ => rfl | 4, _ => rfl | 5, _ => rfl | 6, _ => rfl | 7, _ => rfl | 8, _ => rfl | 9, _ => rfl | 10, _ => rfl | 11, _ => rfl | 12, _ => rfl | 13, _ => rfl | 14, _ => rfl | 15, _ => rfl | 16, _ => rfl | 17, _ => rfl | 18, _ => rfl | 19, _ => rfl | 20, _ => rfl | 21, _ => rfl | 22, _ => rfl | 23, _ => rfl | 24, _ => rfl | 25, _ => rfl | 26, _ => rfl | 27, _ => rfl | 28, _ => rfl | 29, _ => rfl | 30, _ => rfl | 31, _ => rfl | 32, _ => rfl | 33, _ => rfl | 34, _ => rfl | 35, _ => rfl | j + 36, hj => exact absurd hj (by omega)) (Nat.le_of_ble_eq_true rfl) (Nat.le_of_ble_eq_true rfl) dL_law_8 (fun am S3 H h hp => ?_)
  refine lv_dup hx hb dL_law_11 rfl ?_
  refine q_finV C hp (q_runI (As := []) (rest := [.ref am]) C hp (RX8_init l D g _ am _ h _) (cwI 0 C.2.2.2.2.1 gL_law_X8_init rfl rfl rfl (C.2.2.2.2.1 _ kiL_8) (C.2.2.2.2.1 _ klL_8) (C.2.2.2.2.1 _ knL_8) rfl (by decide +kernel) ⟨(Nat.le_of_ble_eq_true rfl), (Nat.le_of_ble_eq_true rfl)⟩) rfl hl.1.1 rfl (Nat.le_of_ble_eq_true rfl) dL_law_12 ⟨(Nat.le_of_ble_eq_true rfl), (Nat.le_of_ble_eq_true rfl)⟩) (fun S4 H locs h hp => ?_)
  refine q_astn (o := some am) (lv' := [(2, .ref am), (1, .ref ax), (0, .ref b)]) hx hb dL_law_15 rfl hl (by decide) rfl (fun ls hl => ?_)
  refine lv_iconst (v := 0) hx hb dL_law_16 (by decide) ?_
  refine q_istn (lv' := [(3, .int (0 : Int32)), (2, .ref am), (1, .ref ax), (0, .ref b)]) hx hb dL_law_17 rfl hl (by decide) rfl (fun ls hl => ?_)
  refine W.widen (k := 45 + 5 * 0) (n := 21896 + 1605 * 0) (Nat.le_of_ble_eq_true rfl) (Nat.le_of_ble_eq_true rfl) ?_
  exact law_loop hL C hr hX hbl (ops_ok ax am) inv_7 inv_8 (L + 1) 0 (by omega) (by omega) S4 H _ ls _ rfl h hp hl

theorem whole_start {p : Program} {e : Env} {s : State} {m : MethodId} {below : List Frame} {meth : Method} {c : Code} (l : Launch) {b L : Nat} {xs : Nat → Int32} (hL : L ≤ 3584) (C0 : lw_At p s m meth c b L xs) : W p l e room_1 s m #[Value.ref b] below meth c s.heap [] 0 0 (lw_Z below #[Value.ref b] s) (entryFrame m ([Value.ref b] : List Value).toArray 4) := by
  rw [lg_entry_eq]
  exact law_go l hL C0 ⟨lv_entry [Value.ref b] (n := 4) (Nat.le_of_ble_eq_true rfl), q_cat (av := [Value.ref b]) rfl⟩
