def q_ops (I : q_S → Prop) (ax am : Nat) : Prop := ∀ S : q_S, I S → (wX7_voice ax (fun r S1 => wX8_voice am (fun r2 S2 => r = r2 ∧ I S2) S1) S) ∧ (∀ x1 : Int32, wX7_bars ax x1 (fun r S1 => wX8_bars am x1 (fun r2 S2 => r = r2 ∧ I S2) S1) S) ∧ (∀ x1 x2 x3 x4 x5 x6 : Int32, wX7_note ax x1 x2 x3 x4 x5 x6 (fun r S1 => wX8_note am x1 x2 x3 x4 x5 x6 (fun r2 S2 => r = r2 ∧ I S2) S1) S) ∧ (∀ x1 x2 : Int32, wX7_drop ax x1 x2 (fun r S1 => wX8_drop am x1 x2 (fun r2 S2 => r = r2 ∧ I S2) S1) S) ∧ (∀ x1 x2 x3 : Int32, wX7_mark ax x1 x2 x3 (fun r S1 => wX8_mark am x1 x2 x3 (fun r2 S2 => r = r2 ∧ I S2) S1) S) ∧ (∀ x1 x2 : Int32, wX7_unmark ax x1 x2 (fun r S1 => wX8_unmark am x1 x2 (fun r2 S2 => r = r2 ∧ I S2) S1) S) ∧ (∀ x1 x2 x3 : Int32, wX7_instrument ax x1 x2 x3 (fun r S1 => wX8_instrument am x1 x2 x3 (fun r2 S2 => r = r2 ∧ I S2) S1) S) ∧ (∀ x1 : Int32, wX7_cueing ax x1 (fun r S1 => wX8_cueing am x1 (fun r2 S2 => r = r2 ∧ I S2) S1) S) ∧ (∀ x1 : Int32, wX7_extract ax x1 (fun r S1 => wX8_extract am x1 (fun r2 S2 => r = r2 ∧ I S2) S1) S) ∧ (∀ x1 x2 x3 : Int32, wX7_row ax x1 x2 x3 (fun r S1 => wX8_row am x1 x2 x3 (fun r2 S2 => r = r2 ∧ I S2) S1) S) ∧ (∀ x1 x2 x3 x4 : Int32, wX7_written ax x1 x2 x3 x4 (fun r S1 => wX8_written am x1 x2 x3 x4 (fun r2 S2 => r = r2 ∧ I S2) S1) S) ∧ (∀ x1 : Int32, wX7_unlike ax x1 (fun r S1 => wX8_unlike am x1 (fun r2 S2 => r = r2 ∧ I S2) S1) S) ∧ (∀ x1 : Int32, wX7_renew ax x1 (fun r S1 => wX8_renew am x1 (fun r2 S2 => r = r2 ∧ I S2) S1) S) ∧ (∀ x1 : Int32, wX7_tacet ax x1 (fun r S1 => wX8_tacet am x1 (fun r2 S2 => r = r2 ∧ I S2) S1) S) ∧ (∀ x1 x2 : Int32, wX7_lay ax x1 x2 (fun r S1 => wX8_lay am x1 x2 (fun r2 S2 => r = r2 ∧ I S2) S1) S) ∧ (∀ x1 : Int32, wX7_pages ax x1 (fun r S1 => wX8_pages am x1 (fun r2 S2 => r = r2 ∧ I S2) S1) S) ∧ (∀ x1 x2 x3 : Int32, wX7_page ax x1 x2 x3 (fun r S1 => wX8_page am x1 x2 x3 (fun r2 S2 => r = r2 ∧ I S2) S1) S) ∧ (∀ x1 x2 x3 : Int32, wX7_condensed ax x1 x2 x3 (fun r S1 => wX8_condensed am x1 x2 x3 (fun r2 S2 => r = r2 ∧ I S2) S1) S) ∧ (∀ x1 x2 : Int32, wX7_together ax x1 x2 (fun r S1 => wX8_together am x1 x2 (fun r2 S2 => r = r2 ∧ I S2) S1) S) ∧ (∀ x1 : Int32, wX7_count ax x1 (fun r S1 => wX8_count am x1 (fun r2 S2 => r = r2 ∧ I S2) S1) S)
theorem q_lawix {L j : Nat} (hL : L ≤ 3584) (h : 7 * j + 7 ≤ L) {k : Int32} {i : Nat} (hk : k = nI i) (hi : i ≤ 6) : vp_in (nI (7 * j) + k) L := by
  subst hk
  rw [nI_add]
  exact vp_in_nI (by omega) (by omega)
set_option maxHeartbeats 8000000 in
set_option maxRecDepth 100000 in
theorem law_loop {p : Program} {l : Launch} {e : Env} {s : State} {m : MethodId} {below : List Frame} {meth : Method} {c : Code} {D : va_G} {g : q_A} {b L : Nat} {xs : Nat → Int32} {I : q_S → Prop} {ax am : Nat} (hL : L ≤ 3584) (C : q_X p s m #[Value.ref b] meth c cL_law 4 RL wsL_law D g (fun q => s.heap.size ≤ q)) (hr : meth.sig.returnType = ret) (hX : va_X b L xs s s.heap) (hbl : b < s.heap.size) (ops : q_ops I ax am) (hax : ∀ S, I S → q_is 6 ax S) (ham : ∀ S, I S → q_is 7 am S) :
    ∀ (n j : Nat), L + 7 ≤ 7 * j + 7 * n → 7 * j ≤ L + 7 → ∀ (S : q_S) (H : Heap) (locs : List Loc) (ls : Array Slot) (x3 : Int32), x3 = nI (7 * j) → I S → q_P D g (fun q => s.heap.size ≤ q) s.heap S H locs → q_l ls 4 [(3, .int x3), (2, .ref am), (1, .ref ax), (0, .ref b)] → W p l e room_1 s m #[Value.ref b] below meth c H locs (45 + 5 * j) (21896 + 1605 * j) (lw_Z below #[Value.ref b] s) (F0 m 18 ls []) := by
  have hx := C.1
  have hb := C.2.1
  have hlocks := C.2.2.2.2.2.1
  have hbA : ¬ (fun q : Nat => s.heap.size ≤ q) b := Nat.not_le.mpr hbl
  intro n
  induction n with
  | zero =>
    intro j h1 h2 S H locs ls x3 e3 hI hp hl
    refine lv_iload_n hx hb dL_law_18 rfl (q_at hl 0 rfl) ?_
    refine lv_aload_n hx hb dL_law_19 rfl (q_at hl 3 rfl) ?_
    refine va_slen hx hb hX hbl hbA hp.2 dL_law_20 ?_
    refine lv_bipush (v := 7) hx hb dL_law_21 (by decide) ?_
    refine lv_isub hx hb dL_law_23 ?_
    refine lv_icmp_gt (tgt := 806) hx hb dL_law_24 (by decide) (fun c1 => ?_) (fun c1 => ?_)
    · refine lv_iconst (v := 1) hx hb dL_law_806 (by decide) ?_
      refine va_forget (fun q hq => hp.2.2.2 q hq) ?_
      refine W.widen (k := 600000) (n := 7302250) (by omega) (by omega) ?_
      exact lw_ret hx hb hr hlocks dL_law_807
    · exfalso
      apply c1
      rw [Int32.lt_iff_toInt_lt, e3]
      have hq := pk_sub_toInt (a := L) (b := 7) (by omega) (by omega)
      have hq2 := nI_toInt (n := 7 * j) (by omega)
      have h7 : (nI L - 7).toInt = (L : Int) - 7 := hq
      show (nI L - 7).toInt < _
      omega
  | succ n ih =>
    intro j h1 h2 S H locs ls x3 e3 hI hp hl
    refine lv_iload_n hx hb dL_law_18 rfl (q_at hl 0 rfl) ?_
    refine lv_aload_n hx hb dL_law_19 rfl (q_at hl 3 rfl) ?_
    refine va_slen hx hb hX hbl hbA hp.2 dL_law_20 ?_
    refine lv_bipush (v := 7) hx hb dL_law_21 (by decide) ?_
    refine lv_isub hx hb dL_law_23 ?_
    refine lv_icmp_gt (tgt := 806) hx hb dL_law_24 (by decide) (fun c1 => ?_) (fun c1 => ?_)
    · refine lv_iconst (v := 1) hx hb dL_law_806 (by decide) ?_
      refine va_forget (fun q hq => hp.2.2.2 q hq) ?_
      refine W.widen (k := 600000) (n := 7302250) (by omega) (by omega) ?_
      exact lw_ret hx hb hr hlocks dL_law_807
    · have hj : 7 * j + 7 ≤ L := by
        rcases Nat.lt_or_ge L (7 * j + 7) with q | q
        · exfalso
          apply c1
          rw [Int32.lt_iff_toInt_lt, e3]
          have hq2 := nI_toInt (n := 7 * j) (by omega)
          have h7 : (nI L - 7).toInt = (L : Int) - 7 := pk_sub_toInt (a := L) (b := 7) (by omega) (by omega)
          show (nI L - 7).toInt < _
          omega
        · exact q
      subst e3
      have iv0 : vp_in (nI (7 * j)) L := vp_in_nI (by omega) (by omega)
      have iv1 : vp_in (nI (7 * j) + 1) L := q_lawix hL hj (i := 1) rfl (by omega)
      have iv2 : vp_in (nI (7 * j) + 2) L := q_lawix hL hj (i := 2) rfl (by omega)
      have iv3 : vp_in (nI (7 * j) + 3) L := q_lawix hL hj (i := 3) rfl (by omega)
      have iv4 : vp_in (nI (7 * j) + 4) L := q_lawix hL hj (i := 4) rfl (by omega)
      have iv5 : vp_in (nI (7 * j) + 5) L := q_lawix hL hj (i := 5) rfl (by omega)
      have iv6 : vp_in (nI (7 * j) + 6) L := q_lawix hL hj (i := 6) rfl (by omega)
      have hback : ∀ (S : q_S) (H : Heap) (locs : List Loc) (ls : Array Slot), I S → q_P D g (fun q => s.heap.size ≤ q) s.heap S H locs → q_l ls 4 [(3, .int (nI (7 * j))), (2, .ref am), (1, .ref ax), (0, .ref b)] → W p l e room_1 s m #[Value.ref b] below meth c H locs (45 + 5 * (j + 1)) (21896 + 1605 * (j + 1)) (lw_Z below #[Value.ref b] s) (F0 m 800 ls []) := by
        intro S H locs ls hI hp hl
        refine q_inc (x := nI (7 * j)) (v := nI (7 * (j + 1))) (lv' := [(3, .int (nI (7 * (j + 1)))), (2, .ref am), (1, .ref ax), (0, .ref b)]) hx hb dL_law_800 hl (k := 0) rfl (by rw [show Int32.ofInt 7 = nI 7 from rfl, nI_add]; rfl) (by decide) rfl (fun ls hl => ?_)
        refine lv_goto (tgt := 18) hx hb dL_law_803 (by decide) ?_
        exact ih (j + 1) (by omega) (by omega) S H locs ls _ rfl hI hp hl
      have hf0 : ∀ mc ms : Nat, mc ≤ 10 → ms ≤ 3210 → 45 + 5 * j + mc ≤ room_1.cells ∧ 21896 + 1605 * j + ms ≤ room_1.slots := fun mc ms q1 q2 => ⟨by show _ ≤ 600000; omega, by show _ ≤ 7302250; omega⟩
      refine lv_aload_n hx hb dL_law_27 rfl (q_at hl 3 rfl) ?_
      refine lv_iload_n hx hb dL_law_28 rfl (q_at hl 0 rfl) ?_
      refine va_sld hx hb hX hbl hbA hp.2 iv0 dL_law_29 ?_
      refine lv_bipush (v := 31) hx hb dL_law_30 (by decide) ?_
      refine lv_iand hx hb dL_law_32 ?_
      refine lv_topi (fun z ez => ?_)
      by_cases hout : z.toInt < 0 ∨ 19 < z.toInt
      · refine lv_tableOut (tgt := 800) hx hb dL_law_33 hout (by decide) ?_
        refine W.widen (k := 45 + 5 * (j + 1)) (n := 21896 + 1605 * (j + 1)) (by omega) (by omega) ?_
        exact hback S H locs ls hI hp hl
      · have hc : z.toInt = 0 ∨ z.toInt = 1 ∨ z.toInt = 2 ∨ z.toInt = 3 ∨ z.toInt = 4 ∨ z.toInt = 5 ∨ z.toInt = 6 ∨ z.toInt = 7 ∨ z.toInt = 8 ∨ z.toInt = 9 ∨ z.toInt = 10 ∨ z.toInt = 11 ∨ z.toInt = 12 ∨ z.toInt = 13 ∨ z.toInt = 14 ∨ z.toInt = 15 ∨ z.toInt = 16 ∨ z.toInt = 17 ∨ z.toInt = 18 ∨ z.toInt = 19 := by omega
        rcases hc with hc | hc | hc | hc | hc | hc | hc | hc | hc | hc | hc | hc | hc | hc | hc | hc | hc | hc | hc | hc
        · refine lv_tableIn (off := 95) (tgt := 128) hx hb dL_law_33 (by omega) (by omega) (by rw [hc]; rfl) (by decide) ?_
          have h := (ops S hI).1
          refine lv_aload_n hx hb dL_law_128 rfl (q_at hl 2 rfl) ?_
          have hf1 := hf0 rmX7_voice.cells rmX7_voice.slots (Nat.le_of_ble_eq_true rfl) (Nat.le_of_ble_eq_true rfl)
          refine q_finI C hp (q_runV (As := []) (rest := []) C hp (RX7_voice l D g _ ax _ h _) (cwV 0 C.2.2.2.2.1 gL_law_X7_voice rfl rfl rfl (by decide +kernel) ⟨Nat.le_of_ble_eq_true rfl, Nat.le_of_ble_eq_true rfl⟩) h.1 rfl rfl hl.1.1 rfl (Nat.le_of_ble_eq_true rfl) dL_law_129 hf1) (fun r_1 S H locs h hp => ?_)
          refine lv_aload_n hx hb dL_law_132 rfl (q_at hl 1 rfl) ?_
          refine q_finI0 C hp (q_runV (As := []) (rest := [.int r_1]) C hp (RX8_voice l D g _ am _ h _) (cwV 0 C.2.2.2.2.1 gL_law_X8_voice rfl rfl rfl (by decide +kernel) ⟨Nat.le_of_ble_eq_true rfl, Nat.le_of_ble_eq_true rfl⟩) h.1 rfl rfl hl.1.1 rfl (Nat.le_of_ble_eq_true rfl) dL_law_133 ⟨hf1.1, hf1.2⟩) rfl rfl (fun r_2 S H locs h hp => ?_)
          refine lv_icmp_eq (tgt := 800) hx hb dL_law_136 (by decide) (fun c2 => ?_) (fun c2 => absurd h.1 c2)
          refine W.widen (k := 45 + 5 * (j + 1)) (n := 21896 + 1605 * (j + 1)) (show 45 + 5 * j + rmX7_voice.cells ≤ _ from by have : rmX7_voice.cells ≤ 5 := (Nat.le_of_ble_eq_true rfl); omega) (show 21896 + 1605 * j + rmX7_voice.slots ≤ _ from by have : rmX7_voice.slots ≤ 1605 := (Nat.le_of_ble_eq_true rfl); omega) ?_
          exact hback S H locs ls h.2 hp hl
        · refine lv_tableIn (off := 108) (tgt := 141) hx hb dL_law_33 (by omega) (by omega) (by rw [hc]; rfl) (by decide) ?_
          have h := (ops S hI).2.1 (xs (nI (7 * j) + 1).toNatClampNeg)
          refine lv_aload_n hx hb dL_law_141 rfl (q_at hl 2 rfl) ?_
          refine lv_aload_n hx hb dL_law_142 rfl (q_at hl 3 rfl) ?_
          refine lv_iload_n hx hb dL_law_143 rfl (q_at hl 0 rfl) ?_
          refine lv_iconst (v := 1) hx hb dL_law_144 (by decide) ?_
          refine lv_iadd hx hb dL_law_145 ?_
          refine va_sld hx hb hX hbl hbA hp.2 iv1 dL_law_146 ?_
          have hf1 := hf0 rmX7_bars.cells rmX7_bars.slots (Nat.le_of_ble_eq_true rfl) (Nat.le_of_ble_eq_true rfl)
          refine q_finI C hp (q_runV (As := [.int (xs (nI (7 * j) + 1).toNatClampNeg)]) (rest := []) C hp (RX7_bars l D g _ ax (xs (nI (7 * j) + 1).toNatClampNeg) _ h _) (cwV 1 C.2.2.2.2.1 gL_law_X7_bars rfl rfl rfl (by decide +kernel) ⟨Nat.le_of_ble_eq_true rfl, Nat.le_of_ble_eq_true rfl⟩) h.1 rfl rfl hl.1.1 rfl (Nat.le_of_ble_eq_true rfl) dL_law_147 hf1) (fun r_1 S H locs h hp => ?_)
          refine lv_aload_n hx hb dL_law_150 rfl (q_at hl 1 rfl) ?_
          refine lv_aload_n hx hb dL_law_151 rfl (q_at hl 3 rfl) ?_
          refine lv_iload_n hx hb dL_law_152 rfl (q_at hl 0 rfl) ?_
          refine lv_iconst (v := 1) hx hb dL_law_153 (by decide) ?_
          refine lv_iadd hx hb dL_law_154 ?_
          refine va_sld hx hb hX hbl hbA hp.2 iv1 dL_law_155 ?_
          refine q_finI0 C hp (q_runV (As := [.int (xs (nI (7 * j) + 1).toNatClampNeg)]) (rest := [.int r_1]) C hp (RX8_bars l D g _ am (xs (nI (7 * j) + 1).toNatClampNeg) _ h _) (cwV 1 C.2.2.2.2.1 gL_law_X8_bars rfl rfl rfl (by decide +kernel) ⟨Nat.le_of_ble_eq_true rfl, Nat.le_of_ble_eq_true rfl⟩) h.1 rfl rfl hl.1.1 rfl (Nat.le_of_ble_eq_true rfl) dL_law_156 ⟨hf1.1, hf1.2⟩) rfl rfl (fun r_2 S H locs h hp => ?_)
          refine lv_icmp_eq (tgt := 800) hx hb dL_law_159 (by decide) (fun c2 => ?_) (fun c2 => absurd h.1 c2)
          refine W.widen (k := 45 + 5 * (j + 1)) (n := 21896 + 1605 * (j + 1)) (show 45 + 5 * j + rmX7_bars.cells ≤ _ from by have : rmX7_bars.cells ≤ 5 := (Nat.le_of_ble_eq_true rfl); omega) (show 21896 + 1605 * j + rmX7_bars.slots ≤ _ from by have : rmX7_bars.slots ≤ 1605 := (Nat.le_of_ble_eq_true rfl); omega) ?_
          exact hback S H locs ls h.2 hp hl
        · refine lv_tableIn (off := 131) (tgt := 164) hx hb dL_law_33 (by omega) (by omega) (by rw [hc]; rfl) (by decide) ?_
          have h := (ops S hI).2.2.1 (xs (nI (7 * j) + 1).toNatClampNeg) (xs (nI (7 * j) + 2).toNatClampNeg) (xs (nI (7 * j) + 3).toNatClampNeg) (xs (nI (7 * j) + 4).toNatClampNeg) (xs (nI (7 * j) + 5).toNatClampNeg) (xs (nI (7 * j) + 6).toNatClampNeg)
          refine lv_aload_n hx hb dL_law_164 rfl (q_at hl 2 rfl) ?_
          refine lv_aload_n hx hb dL_law_165 rfl (q_at hl 3 rfl) ?_
          refine lv_iload_n hx hb dL_law_166 rfl (q_at hl 0 rfl) ?_
          refine lv_iconst (v := 1) hx hb dL_law_167 (by decide) ?_
          refine lv_iadd hx hb dL_law_168 ?_
          refine va_sld hx hb hX hbl hbA hp.2 iv1 dL_law_169 ?_
          refine lv_aload_n hx hb dL_law_170 rfl (q_at hl 3 rfl) ?_
          refine lv_iload_n hx hb dL_law_171 rfl (q_at hl 0 rfl) ?_
          refine lv_iconst (v := 2) hx hb dL_law_172 (by decide) ?_
          refine lv_iadd hx hb dL_law_173 ?_
          refine va_sld hx hb hX hbl hbA hp.2 iv2 dL_law_174 ?_
          refine lv_aload_n hx hb dL_law_175 rfl (q_at hl 3 rfl) ?_
          refine lv_iload_n hx hb dL_law_176 rfl (q_at hl 0 rfl) ?_
          refine lv_iconst (v := 3) hx hb dL_law_177 (by decide) ?_
          refine lv_iadd hx hb dL_law_178 ?_
          refine va_sld hx hb hX hbl hbA hp.2 iv3 dL_law_179 ?_
          refine lv_aload_n hx hb dL_law_180 rfl (q_at hl 3 rfl) ?_
          refine lv_iload_n hx hb dL_law_181 rfl (q_at hl 0 rfl) ?_
          refine lv_iconst (v := 4) hx hb dL_law_182 (by decide) ?_
          refine lv_iadd hx hb dL_law_183 ?_
          refine va_sld hx hb hX hbl hbA hp.2 iv4 dL_law_184 ?_
          refine lv_aload_n hx hb dL_law_185 rfl (q_at hl 3 rfl) ?_
          refine lv_iload_n hx hb dL_law_186 rfl (q_at hl 0 rfl) ?_
          refine lv_iconst (v := 5) hx hb dL_law_187 (by decide) ?_
          refine lv_iadd hx hb dL_law_188 ?_
          refine va_sld hx hb hX hbl hbA hp.2 iv5 dL_law_189 ?_
          refine lv_aload_n hx hb dL_law_190 rfl (q_at hl 3 rfl) ?_
          refine lv_iload_n hx hb dL_law_191 rfl (q_at hl 0 rfl) ?_
          refine lv_bipush (v := 6) hx hb dL_law_192 (by decide) ?_
          refine lv_iadd hx hb dL_law_194 ?_
          refine va_sld hx hb hX hbl hbA hp.2 iv6 dL_law_195 ?_
          have hf1 := hf0 rmX7_note.cells rmX7_note.slots (Nat.le_of_ble_eq_true rfl) (Nat.le_of_ble_eq_true rfl)
          refine q_finI C hp (q_runV (As := [.int (xs (nI (7 * j) + 1).toNatClampNeg), .int (xs (nI (7 * j) + 2).toNatClampNeg), .int (xs (nI (7 * j) + 3).toNatClampNeg), .int (xs (nI (7 * j) + 4).toNatClampNeg), .int (xs (nI (7 * j) + 5).toNatClampNeg), .int (xs (nI (7 * j) + 6).toNatClampNeg)]) (rest := []) C hp (RX7_note l D g _ ax (xs (nI (7 * j) + 1).toNatClampNeg) (xs (nI (7 * j) + 2).toNatClampNeg) (xs (nI (7 * j) + 3).toNatClampNeg) (xs (nI (7 * j) + 4).toNatClampNeg) (xs (nI (7 * j) + 5).toNatClampNeg) (xs (nI (7 * j) + 6).toNatClampNeg) _ h _) (cwV 6 C.2.2.2.2.1 gL_law_X7_note rfl rfl rfl (by decide +kernel) ⟨Nat.le_of_ble_eq_true rfl, Nat.le_of_ble_eq_true rfl⟩) h.1 rfl rfl hl.1.1 rfl (Nat.le_of_ble_eq_true rfl) dL_law_196 hf1) (fun r_1 S H locs h hp => ?_)
          refine lv_aload_n hx hb dL_law_199 rfl (q_at hl 1 rfl) ?_
          refine lv_aload_n hx hb dL_law_200 rfl (q_at hl 3 rfl) ?_
          refine lv_iload_n hx hb dL_law_201 rfl (q_at hl 0 rfl) ?_
          refine lv_iconst (v := 1) hx hb dL_law_202 (by decide) ?_
          refine lv_iadd hx hb dL_law_203 ?_
          refine va_sld hx hb hX hbl hbA hp.2 iv1 dL_law_204 ?_
          refine lv_aload_n hx hb dL_law_205 rfl (q_at hl 3 rfl) ?_
          refine lv_iload_n hx hb dL_law_206 rfl (q_at hl 0 rfl) ?_
          refine lv_iconst (v := 2) hx hb dL_law_207 (by decide) ?_
          refine lv_iadd hx hb dL_law_208 ?_
          refine va_sld hx hb hX hbl hbA hp.2 iv2 dL_law_209 ?_
          refine lv_aload_n hx hb dL_law_210 rfl (q_at hl 3 rfl) ?_
          refine lv_iload_n hx hb dL_law_211 rfl (q_at hl 0 rfl) ?_
          refine lv_iconst (v := 3) hx hb dL_law_212 (by decide) ?_
          refine lv_iadd hx hb dL_law_213 ?_
          refine va_sld hx hb hX hbl hbA hp.2 iv3 dL_law_214 ?_
          refine lv_aload_n hx hb dL_law_215 rfl (q_at hl 3 rfl) ?_
          refine lv_iload_n hx hb dL_law_216 rfl (q_at hl 0 rfl) ?_
          refine lv_iconst (v := 4) hx hb dL_law_217 (by decide) ?_
          refine lv_iadd hx hb dL_law_218 ?_
          refine va_sld hx hb hX hbl hbA hp.2 iv4 dL_law_219 ?_
          refine lv_aload_n hx hb dL_law_220 rfl (q_at hl 3 rfl) ?_
          refine lv_iload_n hx hb dL_law_221 rfl (q_at hl 0 rfl) ?_
          refine lv_iconst (v := 5) hx hb dL_law_222 (by decide) ?_
          refine lv_iadd hx hb dL_law_223 ?_
          refine va_sld hx hb hX hbl hbA hp.2 iv5 dL_law_224 ?_
          refine lv_aload_n hx hb dL_law_225 rfl (q_at hl 3 rfl) ?_
          refine lv_iload_n hx hb dL_law_226 rfl (q_at hl 0 rfl) ?_
          refine lv_bipush (v := 6) hx hb dL_law_227 (by decide) ?_
          refine lv_iadd hx hb dL_law_229 ?_
          refine va_sld hx hb hX hbl hbA hp.2 iv6 dL_law_230 ?_
          refine q_finI0 C hp (q_runV (As := [.int (xs (nI (7 * j) + 1).toNatClampNeg), .int (xs (nI (7 * j) + 2).toNatClampNeg), .int (xs (nI (7 * j) + 3).toNatClampNeg), .int (xs (nI (7 * j) + 4).toNatClampNeg), .int (xs (nI (7 * j) + 5).toNatClampNeg), .int (xs (nI (7 * j) + 6).toNatClampNeg)]) (rest := [.int r_1]) C hp (RX8_note l D g _ am (xs (nI (7 * j) + 1).toNatClampNeg) (xs (nI (7 * j) + 2).toNatClampNeg) (xs (nI (7 * j) + 3).toNatClampNeg) (xs (nI (7 * j) + 4).toNatClampNeg) (xs (nI (7 * j) + 5).toNatClampNeg) (xs (nI (7 * j) + 6).toNatClampNeg) _ h _) (cwV 6 C.2.2.2.2.1 gL_law_X8_note rfl rfl rfl (by decide +kernel) ⟨Nat.le_of_ble_eq_true rfl, Nat.le_of_ble_eq_true rfl⟩) h.1 rfl rfl hl.1.1 rfl (Nat.le_of_ble_eq_true rfl) dL_law_231 ⟨hf1.1, hf1.2⟩) rfl rfl (fun r_2 S H locs h hp => ?_)
          refine lv_icmp_eq (tgt := 800) hx hb dL_law_234 (by decide) (fun c2 => ?_) (fun c2 => absurd h.1 c2)
          refine W.widen (k := 45 + 5 * (j + 1)) (n := 21896 + 1605 * (j + 1)) (show 45 + 5 * j + rmX7_note.cells ≤ _ from by have : rmX7_note.cells ≤ 5 := (Nat.le_of_ble_eq_true rfl); omega) (show 21896 + 1605 * j + rmX7_note.slots ≤ _ from by have : rmX7_note.slots ≤ 1605 := (Nat.le_of_ble_eq_true rfl); omega) ?_
          exact hback S H locs ls h.2 hp hl
        · refine lv_tableIn (off := 206) (tgt := 239) hx hb dL_law_33 (by omega) (by omega) (by rw [hc]; rfl) (by decide) ?_
          have h := (ops S hI).2.2.2.1 (xs (nI (7 * j) + 1).toNatClampNeg) (xs (nI (7 * j) + 2).toNatClampNeg)
          refine lv_aload_n hx hb dL_law_239 rfl (q_at hl 2 rfl) ?_
          refine lv_aload_n hx hb dL_law_240 rfl (q_at hl 3 rfl) ?_
          refine lv_iload_n hx hb dL_law_241 rfl (q_at hl 0 rfl) ?_
          refine lv_iconst (v := 1) hx hb dL_law_242 (by decide) ?_
          refine lv_iadd hx hb dL_law_243 ?_
          refine va_sld hx hb hX hbl hbA hp.2 iv1 dL_law_244 ?_
          refine lv_aload_n hx hb dL_law_245 rfl (q_at hl 3 rfl) ?_
          refine lv_iload_n hx hb dL_law_246 rfl (q_at hl 0 rfl) ?_
          refine lv_iconst (v := 2) hx hb dL_law_247 (by decide) ?_
          refine lv_iadd hx hb dL_law_248 ?_
          refine va_sld hx hb hX hbl hbA hp.2 iv2 dL_law_249 ?_
          have hf1 := hf0 rmX7_drop.cells rmX7_drop.slots (Nat.le_of_ble_eq_true rfl) (Nat.le_of_ble_eq_true rfl)
          refine q_finI C hp (q_runV (As := [.int (xs (nI (7 * j) + 1).toNatClampNeg), .int (xs (nI (7 * j) + 2).toNatClampNeg)]) (rest := []) C hp (RX7_drop l D g _ ax (xs (nI (7 * j) + 1).toNatClampNeg) (xs (nI (7 * j) + 2).toNatClampNeg) _ h _) (cwV 2 C.2.2.2.2.1 gL_law_X7_drop rfl rfl rfl (by decide +kernel) ⟨Nat.le_of_ble_eq_true rfl, Nat.le_of_ble_eq_true rfl⟩) h.1 rfl rfl hl.1.1 rfl (Nat.le_of_ble_eq_true rfl) dL_law_250 hf1) (fun r_1 S H locs h hp => ?_)
          refine lv_aload_n hx hb dL_law_253 rfl (q_at hl 1 rfl) ?_
          refine lv_aload_n hx hb dL_law_254 rfl (q_at hl 3 rfl) ?_
          refine lv_iload_n hx hb dL_law_255 rfl (q_at hl 0 rfl) ?_
          refine lv_iconst (v := 1) hx hb dL_law_256 (by decide) ?_
          refine lv_iadd hx hb dL_law_257 ?_
          refine va_sld hx hb hX hbl hbA hp.2 iv1 dL_law_258 ?_
          refine lv_aload_n hx hb dL_law_259 rfl (q_at hl 3 rfl) ?_
          refine lv_iload_n hx hb dL_law_260 rfl (q_at hl 0 rfl) ?_
          refine lv_iconst (v := 2) hx hb dL_law_261 (by decide) ?_
          refine lv_iadd hx hb dL_law_262 ?_
          refine va_sld hx hb hX hbl hbA hp.2 iv2 dL_law_263 ?_
          refine q_finI0 C hp (q_runV (As := [.int (xs (nI (7 * j) + 1).toNatClampNeg), .int (xs (nI (7 * j) + 2).toNatClampNeg)]) (rest := [.int r_1]) C hp (RX8_drop l D g _ am (xs (nI (7 * j) + 1).toNatClampNeg) (xs (nI (7 * j) + 2).toNatClampNeg) _ h _) (cwV 2 C.2.2.2.2.1 gL_law_X8_drop rfl rfl rfl (by decide +kernel) ⟨Nat.le_of_ble_eq_true rfl, Nat.le_of_ble_eq_true rfl⟩) h.1 rfl rfl hl.1.1 rfl (Nat.le_of_ble_eq_true rfl) dL_law_264 ⟨hf1.1, hf1.2⟩) rfl rfl (fun r_2 S H locs h hp => ?_)
          refine lv_icmp_eq (tgt := 800) hx hb dL_law_267 (by decide) (fun c2 => ?_) (fun c2 => absurd h.1 c2)
          refine W.widen (k := 45 + 5 * (j + 1)) (n := 21896 + 1605 * (j + 1)) (show 45 + 5 * j + rmX7_drop.cells ≤ _ from by have : rmX7_drop.cells ≤ 5 := (Nat.le_of_ble_eq_true rfl); omega) (show 21896 + 1605 * j + rmX7_drop.slots ≤ _ from by have : rmX7_drop.slots ≤ 1605 := (Nat.le_of_ble_eq_true rfl); omega) ?_
          exact hback S H locs ls h.2 hp hl
        · refine lv_tableIn (off := 239) (tgt := 272) hx hb dL_law_33 (by omega) (by omega) (by rw [hc]; rfl) (by decide) ?_
          have h := (ops S hI).2.2.2.2.1 (xs (nI (7 * j) + 1).toNatClampNeg) (xs (nI (7 * j) + 2).toNatClampNeg) (xs (nI (7 * j) + 3).toNatClampNeg)
          refine lv_aload_n hx hb dL_law_272 rfl (q_at hl 2 rfl) ?_
          refine lv_aload_n hx hb dL_law_273 rfl (q_at hl 3 rfl) ?_
          refine lv_iload_n hx hb dL_law_274 rfl (q_at hl 0 rfl) ?_
          refine lv_iconst (v := 1) hx hb dL_law_275 (by decide) ?_
          refine lv_iadd hx hb dL_law_276 ?_
          refine va_sld hx hb hX hbl hbA hp.2 iv1 dL_law_277 ?_
          refine lv_aload_n hx hb dL_law_278 rfl (q_at hl 3 rfl) ?_
          refine lv_iload_n hx hb dL_law_279 rfl (q_at hl 0 rfl) ?_
          refine lv_iconst (v := 2) hx hb dL_law_280 (by decide) ?_
          refine lv_iadd hx hb dL_law_281 ?_
          refine va_sld hx hb hX hbl hbA hp.2 iv2 dL_law_282 ?_
          refine lv_aload_n hx hb dL_law_283 rfl (q_at hl 3 rfl) ?_
          refine lv_iload_n hx hb dL_law_284 rfl (q_at hl 0 rfl) ?_
          refine lv_iconst (v := 3) hx hb dL_law_285 (by decide) ?_
          refine lv_iadd hx hb dL_law_286 ?_
          refine va_sld hx hb hX hbl hbA hp.2 iv3 dL_law_287 ?_
          have hf1 := hf0 rmX7_mark.cells rmX7_mark.slots (Nat.le_of_ble_eq_true rfl) (Nat.le_of_ble_eq_true rfl)
          refine q_finI C hp (q_runV (As := [.int (xs (nI (7 * j) + 1).toNatClampNeg), .int (xs (nI (7 * j) + 2).toNatClampNeg), .int (xs (nI (7 * j) + 3).toNatClampNeg)]) (rest := []) C hp (RX7_mark l D g _ ax (xs (nI (7 * j) + 1).toNatClampNeg) (xs (nI (7 * j) + 2).toNatClampNeg) (xs (nI (7 * j) + 3).toNatClampNeg) _ h _) (cwV 3 C.2.2.2.2.1 gL_law_X7_mark rfl rfl rfl (by decide +kernel) ⟨Nat.le_of_ble_eq_true rfl, Nat.le_of_ble_eq_true rfl⟩) h.1 rfl rfl hl.1.1 rfl (Nat.le_of_ble_eq_true rfl) dL_law_288 hf1) (fun r_1 S H locs h hp => ?_)
          refine lv_aload_n hx hb dL_law_291 rfl (q_at hl 1 rfl) ?_
          refine lv_aload_n hx hb dL_law_292 rfl (q_at hl 3 rfl) ?_
          refine lv_iload_n hx hb dL_law_293 rfl (q_at hl 0 rfl) ?_
          refine lv_iconst (v := 1) hx hb dL_law_294 (by decide) ?_
          refine lv_iadd hx hb dL_law_295 ?_
          refine va_sld hx hb hX hbl hbA hp.2 iv1 dL_law_296 ?_
          refine lv_aload_n hx hb dL_law_297 rfl (q_at hl 3 rfl) ?_
          refine lv_iload_n hx hb dL_law_298 rfl (q_at hl 0 rfl) ?_
          refine lv_iconst (v := 2) hx hb dL_law_299 (by decide) ?_
          refine lv_iadd hx hb dL_law_300 ?_
          refine va_sld hx hb hX hbl hbA hp.2 iv2 dL_law_301 ?_
          refine lv_aload_n hx hb dL_law_302 rfl (q_at hl 3 rfl) ?_
          refine lv_iload_n hx hb dL_law_303 rfl (q_at hl 0 rfl) ?_
          refine lv_iconst (v := 3) hx hb dL_law_304 (by decide) ?_
          refine lv_iadd hx hb dL_law_305 ?_
          refine va_sld hx hb hX hbl hbA hp.2 iv3 dL_law_306 ?_
          refine q_finI0 C hp (q_runV (As := [.int (xs (nI (7 * j) + 1).toNatClampNeg), .int (xs (nI (7 * j) + 2).toNatClampNeg), .int (xs (nI (7 * j) + 3).toNatClampNeg)]) (rest := [.int r_1]) C hp (RX8_mark l D g _ am (xs (nI (7 * j) + 1).toNatClampNeg) (xs (nI (7 * j) + 2).toNatClampNeg) (xs (nI (7 * j) + 3).toNatClampNeg) _ h _) (cwV 3 C.2.2.2.2.1 gL_law_X8_mark rfl rfl rfl (by decide +kernel) ⟨Nat.le_of_ble_eq_true rfl, Nat.le_of_ble_eq_true rfl⟩) h.1 rfl rfl hl.1.1 rfl (Nat.le_of_ble_eq_true rfl) dL_law_307 ⟨hf1.1, hf1.2⟩) rfl rfl (fun r_2 S H locs h hp => ?_)
          refine lv_icmp_eq (tgt := 800) hx hb dL_law_310 (by decide) (fun c2 => ?_) (fun c2 => absurd h.1 c2)
          refine W.widen (k := 45 + 5 * (j + 1)) (n := 21896 + 1605 * (j + 1)) (show 45 + 5 * j + rmX7_mark.cells ≤ _ from by have : rmX7_mark.cells ≤ 5 := (Nat.le_of_ble_eq_true rfl); omega) (show 21896 + 1605 * j + rmX7_mark.slots ≤ _ from by have : rmX7_mark.slots ≤ 1605 := (Nat.le_of_ble_eq_true rfl); omega) ?_
          exact hback S H locs ls h.2 hp hl
        · refine lv_tableIn (off := 282) (tgt := 315) hx hb dL_law_33 (by omega) (by omega) (by rw [hc]; rfl) (by decide) ?_
          have h := (ops S hI).2.2.2.2.2.1 (xs (nI (7 * j) + 1).toNatClampNeg) (xs (nI (7 * j) + 2).toNatClampNeg)
          refine lv_aload_n hx hb dL_law_315 rfl (q_at hl 2 rfl) ?_
          refine lv_aload_n hx hb dL_law_316 rfl (q_at hl 3 rfl) ?_
          refine lv_iload_n hx hb dL_law_317 rfl (q_at hl 0 rfl) ?_
          refine lv_iconst (v := 1) hx hb dL_law_318 (by decide) ?_
          refine lv_iadd hx hb dL_law_319 ?_
          refine va_sld hx hb hX hbl hbA hp.2 iv1 dL_law_320 ?_
          refine lv_aload_n hx hb dL_law_321 rfl (q_at hl 3 rfl) ?_
          refine lv_iload_n hx hb dL_law_322 rfl (q_at hl 0 rfl) ?_
          refine lv_iconst (v := 2) hx hb dL_law_323 (by decide) ?_
          refine lv_iadd hx hb dL_law_324 ?_
          refine va_sld hx hb hX hbl hbA hp.2 iv2 dL_law_325 ?_
          have hf1 := hf0 rmX7_unmark.cells rmX7_unmark.slots (Nat.le_of_ble_eq_true rfl) (Nat.le_of_ble_eq_true rfl)
          refine q_finI C hp (q_runV (As := [.int (xs (nI (7 * j) + 1).toNatClampNeg), .int (xs (nI (7 * j) + 2).toNatClampNeg)]) (rest := []) C hp (RX7_unmark l D g _ ax (xs (nI (7 * j) + 1).toNatClampNeg) (xs (nI (7 * j) + 2).toNatClampNeg) _ h _) (cwV 2 C.2.2.2.2.1 gL_law_X7_unmark rfl rfl rfl (by decide +kernel) ⟨Nat.le_of_ble_eq_true rfl, Nat.le_of_ble_eq_true rfl⟩) h.1 rfl rfl hl.1.1 rfl (Nat.le_of_ble_eq_true rfl) dL_law_326 hf1) (fun r_1 S H locs h hp => ?_)
          refine lv_aload_n hx hb dL_law_329 rfl (q_at hl 1 rfl) ?_
          refine lv_aload_n hx hb dL_law_330 rfl (q_at hl 3 rfl) ?_
          refine lv_iload_n hx hb dL_law_331 rfl (q_at hl 0 rfl) ?_
          refine lv_iconst (v := 1) hx hb dL_law_332 (by decide) ?_
          refine lv_iadd hx hb dL_law_333 ?_
          refine va_sld hx hb hX hbl hbA hp.2 iv1 dL_law_334 ?_
          refine lv_aload_n hx hb dL_law_335 rfl (q_at hl 3 rfl) ?_
          refine lv_iload_n hx hb dL_law_336 rfl (q_at hl 0 rfl) ?_
          refine lv_iconst (v := 2) hx hb dL_law_337 (by decide) ?_
          refine lv_iadd hx hb dL_law_338 ?_
          refine va_sld hx hb hX hbl hbA hp.2 iv2 dL_law_339 ?_
          refine q_finI0 C hp (q_runV (As := [.int (xs (nI (7 * j) + 1).toNatClampNeg), .int (xs (nI (7 * j) + 2).toNatClampNeg)]) (rest := [.int r_1]) C hp (RX8_unmark l D g _ am (xs (nI (7 * j) + 1).toNatClampNeg) (xs (nI (7 * j) + 2).toNatClampNeg) _ h _) (cwV 2 C.2.2.2.2.1 gL_law_X8_unmark rfl rfl rfl (by decide +kernel) ⟨Nat.le_of_ble_eq_true rfl, Nat.le_of_ble_eq_true rfl⟩) h.1 rfl rfl hl.1.1 rfl (Nat.le_of_ble_eq_true rfl) dL_law_340 ⟨hf1.1, hf1.2⟩) rfl rfl (fun r_2 S H locs h hp => ?_)
          refine lv_icmp_eq (tgt := 800) hx hb dL_law_343 (by decide) (fun c2 => ?_) (fun c2 => absurd h.1 c2)
          refine W.widen (k := 45 + 5 * (j + 1)) (n := 21896 + 1605 * (j + 1)) (show 45 + 5 * j + rmX7_unmark.cells ≤ _ from by have : rmX7_unmark.cells ≤ 5 := (Nat.le_of_ble_eq_true rfl); omega) (show 21896 + 1605 * j + rmX7_unmark.slots ≤ _ from by have : rmX7_unmark.slots ≤ 1605 := (Nat.le_of_ble_eq_true rfl); omega) ?_
          exact hback S H locs ls h.2 hp hl
        · refine lv_tableIn (off := 315) (tgt := 348) hx hb dL_law_33 (by omega) (by omega) (by rw [hc]; rfl) (by decide) ?_
          have h := (ops S hI).2.2.2.2.2.2.1 (xs (nI (7 * j) + 1).toNatClampNeg) (xs (nI (7 * j) + 2).toNatClampNeg) (xs (nI (7 * j) + 3).toNatClampNeg)
          refine lv_aload_n hx hb dL_law_348 rfl (q_at hl 2 rfl) ?_
          refine lv_aload_n hx hb dL_law_349 rfl (q_at hl 3 rfl) ?_
          refine lv_iload_n hx hb dL_law_350 rfl (q_at hl 0 rfl) ?_
          refine lv_iconst (v := 1) hx hb dL_law_351 (by decide) ?_
          refine lv_iadd hx hb dL_law_352 ?_
          refine va_sld hx hb hX hbl hbA hp.2 iv1 dL_law_353 ?_
          refine lv_aload_n hx hb dL_law_354 rfl (q_at hl 3 rfl) ?_
          refine lv_iload_n hx hb dL_law_355 rfl (q_at hl 0 rfl) ?_
          refine lv_iconst (v := 2) hx hb dL_law_356 (by decide) ?_
          refine lv_iadd hx hb dL_law_357 ?_
          refine va_sld hx hb hX hbl hbA hp.2 iv2 dL_law_358 ?_
          refine lv_aload_n hx hb dL_law_359 rfl (q_at hl 3 rfl) ?_
          refine lv_iload_n hx hb dL_law_360 rfl (q_at hl 0 rfl) ?_
          refine lv_iconst (v := 3) hx hb dL_law_361 (by decide) ?_
          refine lv_iadd hx hb dL_law_362 ?_
          refine va_sld hx hb hX hbl hbA hp.2 iv3 dL_law_363 ?_
          have hf1 := hf0 rmX7_instrument.cells rmX7_instrument.slots (Nat.le_of_ble_eq_true rfl) (Nat.le_of_ble_eq_true rfl)
          refine q_finI C hp (q_runV (As := [.int (xs (nI (7 * j) + 1).toNatClampNeg), .int (xs (nI (7 * j) + 2).toNatClampNeg), .int (xs (nI (7 * j) + 3).toNatClampNeg)]) (rest := []) C hp (RX7_instrument l D g _ ax (xs (nI (7 * j) + 1).toNatClampNeg) (xs (nI (7 * j) + 2).toNatClampNeg) (xs (nI (7 * j) + 3).toNatClampNeg) _ h _) (cwV 3 C.2.2.2.2.1 gL_law_X7_instrument rfl rfl rfl (by decide +kernel) ⟨Nat.le_of_ble_eq_true rfl, Nat.le_of_ble_eq_true rfl⟩) h.1 rfl rfl hl.1.1 rfl (Nat.le_of_ble_eq_true rfl) dL_law_364 hf1) (fun r_1 S H locs h hp => ?_)
          refine lv_aload_n hx hb dL_law_367 rfl (q_at hl 1 rfl) ?_
          refine lv_aload_n hx hb dL_law_368 rfl (q_at hl 3 rfl) ?_
          refine lv_iload_n hx hb dL_law_369 rfl (q_at hl 0 rfl) ?_
          refine lv_iconst (v := 1) hx hb dL_law_370 (by decide) ?_
          refine lv_iadd hx hb dL_law_371 ?_
          refine va_sld hx hb hX hbl hbA hp.2 iv1 dL_law_372 ?_
          refine lv_aload_n hx hb dL_law_373 rfl (q_at hl 3 rfl) ?_
          refine lv_iload_n hx hb dL_law_374 rfl (q_at hl 0 rfl) ?_
          refine lv_iconst (v := 2) hx hb dL_law_375 (by decide) ?_
          refine lv_iadd hx hb dL_law_376 ?_
          refine va_sld hx hb hX hbl hbA hp.2 iv2 dL_law_377 ?_
          refine lv_aload_n hx hb dL_law_378 rfl (q_at hl 3 rfl) ?_
          refine lv_iload_n hx hb dL_law_379 rfl (q_at hl 0 rfl) ?_
          refine lv_iconst (v := 3) hx hb dL_law_380 (by decide) ?_
          refine lv_iadd hx hb dL_law_381 ?_
          refine va_sld hx hb hX hbl hbA hp.2 iv3 dL_law_382 ?_
          refine q_finI0 C hp (q_runV (As := [.int (xs (nI (7 * j) + 1).toNatClampNeg), .int (xs (nI (7 * j) + 2).toNatClampNeg), .int (xs (nI (7 * j) + 3).toNatClampNeg)]) (rest := [.int r_1]) C hp (RX8_instrument l D g _ am (xs (nI (7 * j) + 1).toNatClampNeg) (xs (nI (7 * j) + 2).toNatClampNeg) (xs (nI (7 * j) + 3).toNatClampNeg) _ h _) (cwV 3 C.2.2.2.2.1 gL_law_X8_instrument rfl rfl rfl (by decide +kernel) ⟨Nat.le_of_ble_eq_true rfl, Nat.le_of_ble_eq_true rfl⟩) h.1 rfl rfl hl.1.1 rfl (Nat.le_of_ble_eq_true rfl) dL_law_383 ⟨hf1.1, hf1.2⟩) rfl rfl (fun r_2 S H locs h hp => ?_)
          refine lv_icmp_eq (tgt := 800) hx hb dL_law_386 (by decide) (fun c2 => ?_) (fun c2 => absurd h.1 c2)
          refine W.widen (k := 45 + 5 * (j + 1)) (n := 21896 + 1605 * (j + 1)) (show 45 + 5 * j + rmX7_instrument.cells ≤ _ from by have : rmX7_instrument.cells ≤ 5 := (Nat.le_of_ble_eq_true rfl); omega) (show 21896 + 1605 * j + rmX7_instrument.slots ≤ _ from by have : rmX7_instrument.slots ≤ 1605 := (Nat.le_of_ble_eq_true rfl); omega) ?_
          exact hback S H locs ls h.2 hp hl
        · refine lv_tableIn (off := 358) (tgt := 391) hx hb dL_law_33 (by omega) (by omega) (by rw [hc]; rfl) (by decide) ?_
          have h := (ops S hI).2.2.2.2.2.2.2.1 (xs (nI (7 * j) + 1).toNatClampNeg)
          refine lv_aload_n hx hb dL_law_391 rfl (q_at hl 2 rfl) ?_
          refine lv_aload_n hx hb dL_law_392 rfl (q_at hl 3 rfl) ?_
          refine lv_iload_n hx hb dL_law_393 rfl (q_at hl 0 rfl) ?_
          refine lv_iconst (v := 1) hx hb dL_law_394 (by decide) ?_
          refine lv_iadd hx hb dL_law_395 ?_
          refine va_sld hx hb hX hbl hbA hp.2 iv1 dL_law_396 ?_
          have hf1 := hf0 rmX7_cueing.cells rmX7_cueing.slots (Nat.le_of_ble_eq_true rfl) (Nat.le_of_ble_eq_true rfl)
          refine q_finI C hp (q_runV (As := [.int (xs (nI (7 * j) + 1).toNatClampNeg)]) (rest := []) C hp (RX7_cueing l D g _ ax (xs (nI (7 * j) + 1).toNatClampNeg) _ h _) (cwV 1 C.2.2.2.2.1 gL_law_X7_cueing rfl rfl rfl (by decide +kernel) ⟨Nat.le_of_ble_eq_true rfl, Nat.le_of_ble_eq_true rfl⟩) h.1 rfl rfl hl.1.1 rfl (Nat.le_of_ble_eq_true rfl) dL_law_397 hf1) (fun r_1 S H locs h hp => ?_)
          refine lv_aload_n hx hb dL_law_400 rfl (q_at hl 1 rfl) ?_
          refine lv_aload_n hx hb dL_law_401 rfl (q_at hl 3 rfl) ?_
          refine lv_iload_n hx hb dL_law_402 rfl (q_at hl 0 rfl) ?_
          refine lv_iconst (v := 1) hx hb dL_law_403 (by decide) ?_
          refine lv_iadd hx hb dL_law_404 ?_
          refine va_sld hx hb hX hbl hbA hp.2 iv1 dL_law_405 ?_
          refine q_finI0 C hp (q_runV (As := [.int (xs (nI (7 * j) + 1).toNatClampNeg)]) (rest := [.int r_1]) C hp (RX8_cueing l D g _ am (xs (nI (7 * j) + 1).toNatClampNeg) _ h _) (cwV 1 C.2.2.2.2.1 gL_law_X8_cueing rfl rfl rfl (by decide +kernel) ⟨Nat.le_of_ble_eq_true rfl, Nat.le_of_ble_eq_true rfl⟩) h.1 rfl rfl hl.1.1 rfl (Nat.le_of_ble_eq_true rfl) dL_law_406 ⟨hf1.1, hf1.2⟩) rfl rfl (fun r_2 S H locs h hp => ?_)
          refine lv_icmp_eq (tgt := 800) hx hb dL_law_409 (by decide) (fun c2 => ?_) (fun c2 => absurd h.1 c2)
          refine W.widen (k := 45 + 5 * (j + 1)) (n := 21896 + 1605 * (j + 1)) (show 45 + 5 * j + rmX7_cueing.cells ≤ _ from by have : rmX7_cueing.cells ≤ 5 := (Nat.le_of_ble_eq_true rfl); omega) (show 21896 + 1605 * j + rmX7_cueing.slots ≤ _ from by have : rmX7_cueing.slots ≤ 1605 := (Nat.le_of_ble_eq_true rfl); omega) ?_
          exact hback S H locs ls h.2 hp hl
        · refine lv_tableIn (off := 381) (tgt := 414) hx hb dL_law_33 (by omega) (by omega) (by rw [hc]; rfl) (by decide) ?_
          have h := (ops S hI).2.2.2.2.2.2.2.2.1 (xs (nI (7 * j) + 1).toNatClampNeg)
          refine lv_aload_n hx hb dL_law_414 rfl (q_at hl 2 rfl) ?_
          refine lv_aload_n hx hb dL_law_415 rfl (q_at hl 3 rfl) ?_
          refine lv_iload_n hx hb dL_law_416 rfl (q_at hl 0 rfl) ?_
          refine lv_iconst (v := 1) hx hb dL_law_417 (by decide) ?_
          refine lv_iadd hx hb dL_law_418 ?_
          refine va_sld hx hb hX hbl hbA hp.2 iv1 dL_law_419 ?_
          have hf1 := hf0 rmX7_extract.cells rmX7_extract.slots (Nat.le_of_ble_eq_true rfl) (Nat.le_of_ble_eq_true rfl)
          refine q_finI C hp (q_runV (As := [.int (xs (nI (7 * j) + 1).toNatClampNeg)]) (rest := []) C hp (RX7_extract l D g _ ax (xs (nI (7 * j) + 1).toNatClampNeg) _ h _) (cwV 1 C.2.2.2.2.1 gL_law_X7_extract rfl rfl rfl (by decide +kernel) ⟨Nat.le_of_ble_eq_true rfl, Nat.le_of_ble_eq_true rfl⟩) h.1 rfl rfl hl.1.1 rfl (Nat.le_of_ble_eq_true rfl) dL_law_420 hf1) (fun r_1 S H locs h hp => ?_)
          refine lv_aload_n hx hb dL_law_423 rfl (q_at hl 1 rfl) ?_
          refine lv_aload_n hx hb dL_law_424 rfl (q_at hl 3 rfl) ?_
          refine lv_iload_n hx hb dL_law_425 rfl (q_at hl 0 rfl) ?_
          refine lv_iconst (v := 1) hx hb dL_law_426 (by decide) ?_
          refine lv_iadd hx hb dL_law_427 ?_
          refine va_sld hx hb hX hbl hbA hp.2 iv1 dL_law_428 ?_
          refine q_finI0 C hp (q_runV (As := [.int (xs (nI (7 * j) + 1).toNatClampNeg)]) (rest := [.int r_1]) C hp (RX8_extract l D g _ am (xs (nI (7 * j) + 1).toNatClampNeg) _ h _) (cwV 1 C.2.2.2.2.1 gL_law_X8_extract rfl rfl rfl (by decide +kernel) ⟨Nat.le_of_ble_eq_true rfl, Nat.le_of_ble_eq_true rfl⟩) h.1 rfl rfl hl.1.1 rfl (Nat.le_of_ble_eq_true rfl) dL_law_429 ⟨hf1.1, hf1.2⟩) rfl rfl (fun r_2 S H locs h hp => ?_)
          refine lv_icmp_eq (tgt := 800) hx hb dL_law_432 (by decide) (fun c2 => ?_) (fun c2 => absurd h.1 c2)
          refine W.widen (k := 45 + 5 * (j + 1)) (n := 21896 + 1605 * (j + 1)) (show 45 + 5 * j + rmX7_extract.cells ≤ _ from by have : rmX7_extract.cells ≤ 5 := (Nat.le_of_ble_eq_true rfl); omega) (show 21896 + 1605 * j + rmX7_extract.slots ≤ _ from by have : rmX7_extract.slots ≤ 1605 := (Nat.le_of_ble_eq_true rfl); omega) ?_
          exact hback S H locs ls h.2 hp hl
        · refine lv_tableIn (off := 404) (tgt := 437) hx hb dL_law_33 (by omega) (by omega) (by rw [hc]; rfl) (by decide) ?_
          have h := (ops S hI).2.2.2.2.2.2.2.2.2.1 (xs (nI (7 * j) + 1).toNatClampNeg) (xs (nI (7 * j) + 2).toNatClampNeg) (xs (nI (7 * j) + 3).toNatClampNeg)
          refine lv_aload_n hx hb dL_law_437 rfl (q_at hl 2 rfl) ?_
          refine lv_aload_n hx hb dL_law_438 rfl (q_at hl 3 rfl) ?_
          refine lv_iload_n hx hb dL_law_439 rfl (q_at hl 0 rfl) ?_
          refine lv_iconst (v := 1) hx hb dL_law_440 (by decide) ?_
          refine lv_iadd hx hb dL_law_441 ?_
          refine va_sld hx hb hX hbl hbA hp.2 iv1 dL_law_442 ?_
          refine lv_aload_n hx hb dL_law_443 rfl (q_at hl 3 rfl) ?_
          refine lv_iload_n hx hb dL_law_444 rfl (q_at hl 0 rfl) ?_
          refine lv_iconst (v := 2) hx hb dL_law_445 (by decide) ?_
          refine lv_iadd hx hb dL_law_446 ?_
          refine va_sld hx hb hX hbl hbA hp.2 iv2 dL_law_447 ?_
          refine lv_aload_n hx hb dL_law_448 rfl (q_at hl 3 rfl) ?_
          refine lv_iload_n hx hb dL_law_449 rfl (q_at hl 0 rfl) ?_
          refine lv_iconst (v := 3) hx hb dL_law_450 (by decide) ?_
          refine lv_iadd hx hb dL_law_451 ?_
          refine va_sld hx hb hX hbl hbA hp.2 iv3 dL_law_452 ?_
          have hf1 := hf0 rmX7_row.cells rmX7_row.slots (Nat.le_of_ble_eq_true rfl) (Nat.le_of_ble_eq_true rfl)
          refine q_finI C hp (q_runV (As := [.int (xs (nI (7 * j) + 1).toNatClampNeg), .int (xs (nI (7 * j) + 2).toNatClampNeg), .int (xs (nI (7 * j) + 3).toNatClampNeg)]) (rest := []) C hp (RX7_row l D g _ ax (xs (nI (7 * j) + 1).toNatClampNeg) (xs (nI (7 * j) + 2).toNatClampNeg) (xs (nI (7 * j) + 3).toNatClampNeg) _ h _) (cwV 3 C.2.2.2.2.1 gL_law_X7_row rfl rfl rfl (by decide +kernel) ⟨Nat.le_of_ble_eq_true rfl, Nat.le_of_ble_eq_true rfl⟩) h.1 rfl rfl hl.1.1 rfl (Nat.le_of_ble_eq_true rfl) dL_law_453 hf1) (fun r_1 S H locs h hp => ?_)
          refine lv_aload_n hx hb dL_law_456 rfl (q_at hl 1 rfl) ?_
          refine lv_aload_n hx hb dL_law_457 rfl (q_at hl 3 rfl) ?_
          refine lv_iload_n hx hb dL_law_458 rfl (q_at hl 0 rfl) ?_
          refine lv_iconst (v := 1) hx hb dL_law_459 (by decide) ?_
          refine lv_iadd hx hb dL_law_460 ?_
          refine va_sld hx hb hX hbl hbA hp.2 iv1 dL_law_461 ?_
          refine lv_aload_n hx hb dL_law_462 rfl (q_at hl 3 rfl) ?_
          refine lv_iload_n hx hb dL_law_463 rfl (q_at hl 0 rfl) ?_
          refine lv_iconst (v := 2) hx hb dL_law_464 (by decide) ?_
          refine lv_iadd hx hb dL_law_465 ?_
          refine va_sld hx hb hX hbl hbA hp.2 iv2 dL_law_466 ?_
          refine lv_aload_n hx hb dL_law_467 rfl (q_at hl 3 rfl) ?_
          refine lv_iload_n hx hb dL_law_468 rfl (q_at hl 0 rfl) ?_
          refine lv_iconst (v := 3) hx hb dL_law_469 (by decide) ?_
          refine lv_iadd hx hb dL_law_470 ?_
          refine va_sld hx hb hX hbl hbA hp.2 iv3 dL_law_471 ?_
          refine q_finI0 C hp (q_runV (As := [.int (xs (nI (7 * j) + 1).toNatClampNeg), .int (xs (nI (7 * j) + 2).toNatClampNeg), .int (xs (nI (7 * j) + 3).toNatClampNeg)]) (rest := [.int r_1]) C hp (RX8_row l D g _ am (xs (nI (7 * j) + 1).toNatClampNeg) (xs (nI (7 * j) + 2).toNatClampNeg) (xs (nI (7 * j) + 3).toNatClampNeg) _ h _) (cwV 3 C.2.2.2.2.1 gL_law_X8_row rfl rfl rfl (by decide +kernel) ⟨Nat.le_of_ble_eq_true rfl, Nat.le_of_ble_eq_true rfl⟩) h.1 rfl rfl hl.1.1 rfl (Nat.le_of_ble_eq_true rfl) dL_law_472 ⟨hf1.1, hf1.2⟩) rfl rfl (fun r_2 S H locs h hp => ?_)
          refine lv_icmp_eq (tgt := 800) hx hb dL_law_475 (by decide) (fun c2 => ?_) (fun c2 => absurd h.1 c2)
          refine W.widen (k := 45 + 5 * (j + 1)) (n := 21896 + 1605 * (j + 1)) (show 45 + 5 * j + rmX7_row.cells ≤ _ from by have : rmX7_row.cells ≤ 5 := (Nat.le_of_ble_eq_true rfl); omega) (show 21896 + 1605 * j + rmX7_row.slots ≤ _ from by have : rmX7_row.slots ≤ 1605 := (Nat.le_of_ble_eq_true rfl); omega) ?_
          exact hback S H locs ls h.2 hp hl
        · refine lv_tableIn (off := 447) (tgt := 480) hx hb dL_law_33 (by omega) (by omega) (by rw [hc]; rfl) (by decide) ?_
          have h := (ops S hI).2.2.2.2.2.2.2.2.2.2.1 (xs (nI (7 * j) + 1).toNatClampNeg) (xs (nI (7 * j) + 2).toNatClampNeg) (xs (nI (7 * j) + 3).toNatClampNeg) (xs (nI (7 * j) + 4).toNatClampNeg)
          refine lv_aload_n hx hb dL_law_480 rfl (q_at hl 2 rfl) ?_
          refine lv_aload_n hx hb dL_law_481 rfl (q_at hl 3 rfl) ?_
          refine lv_iload_n hx hb dL_law_482 rfl (q_at hl 0 rfl) ?_
          refine lv_iconst (v := 1) hx hb dL_law_483 (by decide) ?_
          refine lv_iadd hx hb dL_law_484 ?_
          refine va_sld hx hb hX hbl hbA hp.2 iv1 dL_law_485 ?_
          refine lv_aload_n hx hb dL_law_486 rfl (q_at hl 3 rfl) ?_
          refine lv_iload_n hx hb dL_law_487 rfl (q_at hl 0 rfl) ?_
          refine lv_iconst (v := 2) hx hb dL_law_488 (by decide) ?_
          refine lv_iadd hx hb dL_law_489 ?_
          refine va_sld hx hb hX hbl hbA hp.2 iv2 dL_law_490 ?_
          refine lv_aload_n hx hb dL_law_491 rfl (q_at hl 3 rfl) ?_
          refine lv_iload_n hx hb dL_law_492 rfl (q_at hl 0 rfl) ?_
          refine lv_iconst (v := 3) hx hb dL_law_493 (by decide) ?_
          refine lv_iadd hx hb dL_law_494 ?_
          refine va_sld hx hb hX hbl hbA hp.2 iv3 dL_law_495 ?_
          refine lv_aload_n hx hb dL_law_496 rfl (q_at hl 3 rfl) ?_
          refine lv_iload_n hx hb dL_law_497 rfl (q_at hl 0 rfl) ?_
          refine lv_iconst (v := 4) hx hb dL_law_498 (by decide) ?_
          refine lv_iadd hx hb dL_law_499 ?_
          refine va_sld hx hb hX hbl hbA hp.2 iv4 dL_law_500 ?_
          have hf1 := hf0 rmX7_written.cells rmX7_written.slots (Nat.le_of_ble_eq_true rfl) (Nat.le_of_ble_eq_true rfl)
          refine q_finI C hp (q_runV (As := [.int (xs (nI (7 * j) + 1).toNatClampNeg), .int (xs (nI (7 * j) + 2).toNatClampNeg), .int (xs (nI (7 * j) + 3).toNatClampNeg), .int (xs (nI (7 * j) + 4).toNatClampNeg)]) (rest := []) C hp (RX7_written l D g _ ax (xs (nI (7 * j) + 1).toNatClampNeg) (xs (nI (7 * j) + 2).toNatClampNeg) (xs (nI (7 * j) + 3).toNatClampNeg) (xs (nI (7 * j) + 4).toNatClampNeg) _ h _) (cwV 4 C.2.2.2.2.1 gL_law_X7_written rfl rfl rfl (by decide +kernel) ⟨Nat.le_of_ble_eq_true rfl, Nat.le_of_ble_eq_true rfl⟩) h.1 rfl rfl hl.1.1 rfl (Nat.le_of_ble_eq_true rfl) dL_law_501 hf1) (fun r_1 S H locs h hp => ?_)
          refine lv_aload_n hx hb dL_law_504 rfl (q_at hl 1 rfl) ?_
          refine lv_aload_n hx hb dL_law_505 rfl (q_at hl 3 rfl) ?_
          refine lv_iload_n hx hb dL_law_506 rfl (q_at hl 0 rfl) ?_
          refine lv_iconst (v := 1) hx hb dL_law_507 (by decide) ?_
          refine lv_iadd hx hb dL_law_508 ?_
          refine va_sld hx hb hX hbl hbA hp.2 iv1 dL_law_509 ?_
          refine lv_aload_n hx hb dL_law_510 rfl (q_at hl 3 rfl) ?_
          refine lv_iload_n hx hb dL_law_511 rfl (q_at hl 0 rfl) ?_
          refine lv_iconst (v := 2) hx hb dL_law_512 (by decide) ?_
          refine lv_iadd hx hb dL_law_513 ?_
          refine va_sld hx hb hX hbl hbA hp.2 iv2 dL_law_514 ?_
          refine lv_aload_n hx hb dL_law_515 rfl (q_at hl 3 rfl) ?_
          refine lv_iload_n hx hb dL_law_516 rfl (q_at hl 0 rfl) ?_
          refine lv_iconst (v := 3) hx hb dL_law_517 (by decide) ?_
          refine lv_iadd hx hb dL_law_518 ?_
          refine va_sld hx hb hX hbl hbA hp.2 iv3 dL_law_519 ?_
          refine lv_aload_n hx hb dL_law_520 rfl (q_at hl 3 rfl) ?_
          refine lv_iload_n hx hb dL_law_521 rfl (q_at hl 0 rfl) ?_
          refine lv_iconst (v := 4) hx hb dL_law_522 (by decide) ?_
          refine lv_iadd hx hb dL_law_523 ?_
          refine va_sld hx hb hX hbl hbA hp.2 iv4 dL_law_524 ?_
          refine q_finI0 C hp (q_runV (As := [.int (xs (nI (7 * j) + 1).toNatClampNeg), .int (xs (nI (7 * j) + 2).toNatClampNeg), .int (xs (nI (7 * j) + 3).toNatClampNeg), .int (xs (nI (7 * j) + 4).toNatClampNeg)]) (rest := [.int r_1]) C hp (RX8_written l D g _ am (xs (nI (7 * j) + 1).toNatClampNeg) (xs (nI (7 * j) + 2).toNatClampNeg) (xs (nI (7 * j) + 3).toNatClampNeg) (xs (nI (7 * j) + 4).toNatClampNeg) _ h _) (cwV 4 C.2.2.2.2.1 gL_law_X8_written rfl rfl rfl (by decide +kernel) ⟨Nat.le_of_ble_eq_true rfl, Nat.le_of_ble_eq_true rfl⟩) h.1 rfl rfl hl.1.1 rfl (Nat.le_of_ble_eq_true rfl) dL_law_525 ⟨hf1.1, hf1.2⟩) rfl rfl (fun r_2 S H locs h hp => ?_)
          refine lv_icmp_eq (tgt := 800) hx hb dL_law_528 (by decide) (fun c2 => ?_) (fun c2 => absurd h.1 c2)
          refine W.widen (k := 45 + 5 * (j + 1)) (n := 21896 + 1605 * (j + 1)) (show 45 + 5 * j + rmX7_written.cells ≤ _ from by have : rmX7_written.cells ≤ 5 := (Nat.le_of_ble_eq_true rfl); omega) (show 21896 + 1605 * j + rmX7_written.slots ≤ _ from by have : rmX7_written.slots ≤ 1605 := (Nat.le_of_ble_eq_true rfl); omega) ?_
          exact hback S H locs ls h.2 hp hl
        · refine lv_tableIn (off := 500) (tgt := 533) hx hb dL_law_33 (by omega) (by omega) (by rw [hc]; rfl) (by decide) ?_
          have h := (ops S hI).2.2.2.2.2.2.2.2.2.2.2.1 (xs (nI (7 * j) + 1).toNatClampNeg)
          refine lv_aload_n hx hb dL_law_533 rfl (q_at hl 2 rfl) ?_
          refine lv_aload_n hx hb dL_law_534 rfl (q_at hl 3 rfl) ?_
          refine lv_iload_n hx hb dL_law_535 rfl (q_at hl 0 rfl) ?_
          refine lv_iconst (v := 1) hx hb dL_law_536 (by decide) ?_
          refine lv_iadd hx hb dL_law_537 ?_
          refine va_sld hx hb hX hbl hbA hp.2 iv1 dL_law_538 ?_
          have hf1 := hf0 rmX7_unlike.cells rmX7_unlike.slots (Nat.le_of_ble_eq_true rfl) (Nat.le_of_ble_eq_true rfl)
          refine q_finI C hp (q_runV (As := [.int (xs (nI (7 * j) + 1).toNatClampNeg)]) (rest := []) C hp (RX7_unlike l D g _ ax (xs (nI (7 * j) + 1).toNatClampNeg) _ h _) (cwV 1 C.2.2.2.2.1 gL_law_X7_unlike rfl rfl rfl (by decide +kernel) ⟨Nat.le_of_ble_eq_true rfl, Nat.le_of_ble_eq_true rfl⟩) h.1 rfl rfl hl.1.1 rfl (Nat.le_of_ble_eq_true rfl) dL_law_539 hf1) (fun r_1 S H locs h hp => ?_)
          refine lv_aload_n hx hb dL_law_542 rfl (q_at hl 1 rfl) ?_
          refine lv_aload_n hx hb dL_law_543 rfl (q_at hl 3 rfl) ?_
          refine lv_iload_n hx hb dL_law_544 rfl (q_at hl 0 rfl) ?_
          refine lv_iconst (v := 1) hx hb dL_law_545 (by decide) ?_
          refine lv_iadd hx hb dL_law_546 ?_
          refine va_sld hx hb hX hbl hbA hp.2 iv1 dL_law_547 ?_
          refine q_finI0 C hp (q_runV (As := [.int (xs (nI (7 * j) + 1).toNatClampNeg)]) (rest := [.int r_1]) C hp (RX8_unlike l D g _ am (xs (nI (7 * j) + 1).toNatClampNeg) _ h _) (cwV 1 C.2.2.2.2.1 gL_law_X8_unlike rfl rfl rfl (by decide +kernel) ⟨Nat.le_of_ble_eq_true rfl, Nat.le_of_ble_eq_true rfl⟩) h.1 rfl rfl hl.1.1 rfl (Nat.le_of_ble_eq_true rfl) dL_law_548 ⟨hf1.1, hf1.2⟩) rfl rfl (fun r_2 S H locs h hp => ?_)
          refine lv_icmp_eq (tgt := 800) hx hb dL_law_551 (by decide) (fun c2 => ?_) (fun c2 => absurd h.1 c2)
          refine W.widen (k := 45 + 5 * (j + 1)) (n := 21896 + 1605 * (j + 1)) (show 45 + 5 * j + rmX7_unlike.cells ≤ _ from by have : rmX7_unlike.cells ≤ 5 := (Nat.le_of_ble_eq_true rfl); omega) (show 21896 + 1605 * j + rmX7_unlike.slots ≤ _ from by have : rmX7_unlike.slots ≤ 1605 := (Nat.le_of_ble_eq_true rfl); omega) ?_
          exact hback S H locs ls h.2 hp hl
        · refine lv_tableIn (off := 523) (tgt := 556) hx hb dL_law_33 (by omega) (by omega) (by rw [hc]; rfl) (by decide) ?_
          have h := (ops S hI).2.2.2.2.2.2.2.2.2.2.2.2.1 (xs (nI (7 * j) + 1).toNatClampNeg)
          refine lv_aload_n hx hb dL_law_556 rfl (q_at hl 2 rfl) ?_
          refine lv_aload_n hx hb dL_law_557 rfl (q_at hl 3 rfl) ?_
          refine lv_iload_n hx hb dL_law_558 rfl (q_at hl 0 rfl) ?_
          refine lv_iconst (v := 1) hx hb dL_law_559 (by decide) ?_
          refine lv_iadd hx hb dL_law_560 ?_
          refine va_sld hx hb hX hbl hbA hp.2 iv1 dL_law_561 ?_
          have hf1 := hf0 rmX7_renew.cells rmX7_renew.slots (Nat.le_of_ble_eq_true rfl) (Nat.le_of_ble_eq_true rfl)
          refine q_finI C hp (q_runV (As := [.int (xs (nI (7 * j) + 1).toNatClampNeg)]) (rest := []) C hp (RX7_renew l D g _ ax (xs (nI (7 * j) + 1).toNatClampNeg) _ h _) (cwV 1 C.2.2.2.2.1 gL_law_X7_renew rfl rfl rfl (by decide +kernel) ⟨Nat.le_of_ble_eq_true rfl, Nat.le_of_ble_eq_true rfl⟩) h.1 rfl rfl hl.1.1 rfl (Nat.le_of_ble_eq_true rfl) dL_law_562 hf1) (fun r_1 S H locs h hp => ?_)
          refine lv_aload_n hx hb dL_law_565 rfl (q_at hl 1 rfl) ?_
          refine lv_aload_n hx hb dL_law_566 rfl (q_at hl 3 rfl) ?_
          refine lv_iload_n hx hb dL_law_567 rfl (q_at hl 0 rfl) ?_
          refine lv_iconst (v := 1) hx hb dL_law_568 (by decide) ?_
          refine lv_iadd hx hb dL_law_569 ?_
          refine va_sld hx hb hX hbl hbA hp.2 iv1 dL_law_570 ?_
          refine q_finI0 C hp (q_runV (As := [.int (xs (nI (7 * j) + 1).toNatClampNeg)]) (rest := [.int r_1]) C hp (RX8_renew l D g _ am (xs (nI (7 * j) + 1).toNatClampNeg) _ h _) (cwV 1 C.2.2.2.2.1 gL_law_X8_renew rfl rfl rfl (by decide +kernel) ⟨Nat.le_of_ble_eq_true rfl, Nat.le_of_ble_eq_true rfl⟩) h.1 rfl rfl hl.1.1 rfl (Nat.le_of_ble_eq_true rfl) dL_law_571 ⟨hf1.1, hf1.2⟩) rfl rfl (fun r_2 S H locs h hp => ?_)
          refine lv_icmp_eq (tgt := 800) hx hb dL_law_574 (by decide) (fun c2 => ?_) (fun c2 => absurd h.1 c2)
          refine W.widen (k := 45 + 5 * (j + 1)) (n := 21896 + 1605 * (j + 1)) (show 45 + 5 * j + rmX7_renew.cells ≤ _ from by have : rmX7_renew.cells ≤ 5 := (Nat.le_of_ble_eq_true rfl); omega) (show 21896 + 1605 * j + rmX7_renew.slots ≤ _ from by have : rmX7_renew.slots ≤ 1605 := (Nat.le_of_ble_eq_true rfl); omega) ?_
          exact hback S H locs ls h.2 hp hl
        · refine lv_tableIn (off := 546) (tgt := 579) hx hb dL_law_33 (by omega) (by omega) (by rw [hc]; rfl) (by decide) ?_
          have h := (ops S hI).2.2.2.2.2.2.2.2.2.2.2.2.2.1 (xs (nI (7 * j) + 1).toNatClampNeg)
          refine lv_aload_n hx hb dL_law_579 rfl (q_at hl 2 rfl) ?_
          refine lv_aload_n hx hb dL_law_580 rfl (q_at hl 3 rfl) ?_
          refine lv_iload_n hx hb dL_law_581 rfl (q_at hl 0 rfl) ?_
          refine lv_iconst (v := 1) hx hb dL_law_582 (by decide) ?_
          refine lv_iadd hx hb dL_law_583 ?_
          refine va_sld hx hb hX hbl hbA hp.2 iv1 dL_law_584 ?_
          have hf1 := hf0 rmX7_tacet.cells rmX7_tacet.slots (Nat.le_of_ble_eq_true rfl) (Nat.le_of_ble_eq_true rfl)
          refine q_finI C hp (q_runV (As := [.int (xs (nI (7 * j) + 1).toNatClampNeg)]) (rest := []) C hp (RX7_tacet l D g _ ax (xs (nI (7 * j) + 1).toNatClampNeg) _ h _) (cwV 1 C.2.2.2.2.1 gL_law_X7_tacet rfl rfl rfl (by decide +kernel) ⟨Nat.le_of_ble_eq_true rfl, Nat.le_of_ble_eq_true rfl⟩) h.1 rfl rfl hl.1.1 rfl (Nat.le_of_ble_eq_true rfl) dL_law_585 hf1) (fun r_1 S H locs h hp => ?_)
          refine lv_aload_n hx hb dL_law_588 rfl (q_at hl 1 rfl) ?_
          refine lv_aload_n hx hb dL_law_589 rfl (q_at hl 3 rfl) ?_
          refine lv_iload_n hx hb dL_law_590 rfl (q_at hl 0 rfl) ?_
          refine lv_iconst (v := 1) hx hb dL_law_591 (by decide) ?_
          refine lv_iadd hx hb dL_law_592 ?_
          refine va_sld hx hb hX hbl hbA hp.2 iv1 dL_law_593 ?_
          refine q_finI0 C hp (q_runV (As := [.int (xs (nI (7 * j) + 1).toNatClampNeg)]) (rest := [.int r_1]) C hp (RX8_tacet l D g _ am (xs (nI (7 * j) + 1).toNatClampNeg) _ h _) (cwV 1 C.2.2.2.2.1 gL_law_X8_tacet rfl rfl rfl (by decide +kernel) ⟨Nat.le_of_ble_eq_true rfl, Nat.le_of_ble_eq_true rfl⟩) h.1 rfl rfl hl.1.1 rfl (Nat.le_of_ble_eq_true rfl) dL_law_594 ⟨hf1.1, hf1.2⟩) rfl rfl (fun r_2 S H locs h hp => ?_)
          refine lv_icmp_eq (tgt := 800) hx hb dL_law_597 (by decide) (fun c2 => ?_) (fun c2 => absurd h.1 c2)
          refine W.widen (k := 45 + 5 * (j + 1)) (n := 21896 + 1605 * (j + 1)) (show 45 + 5 * j + rmX7_tacet.cells ≤ _ from by have : rmX7_tacet.cells ≤ 5 := (Nat.le_of_ble_eq_true rfl); omega) (show 21896 + 1605 * j + rmX7_tacet.slots ≤ _ from by have : rmX7_tacet.slots ≤ 1605 := (Nat.le_of_ble_eq_true rfl); omega) ?_
          exact hback S H locs ls h.2 hp hl
        · refine lv_tableIn (off := 569) (tgt := 602) hx hb dL_law_33 (by omega) (by omega) (by rw [hc]; rfl) (by decide) ?_
          have h := (ops S hI).2.2.2.2.2.2.2.2.2.2.2.2.2.2.1 (xs (nI (7 * j) + 1).toNatClampNeg) (xs (nI (7 * j) + 2).toNatClampNeg)
          refine lv_aload_n hx hb dL_law_602 rfl (q_at hl 2 rfl) ?_
          refine lv_aload_n hx hb dL_law_603 rfl (q_at hl 3 rfl) ?_
          refine lv_iload_n hx hb dL_law_604 rfl (q_at hl 0 rfl) ?_
          refine lv_iconst (v := 1) hx hb dL_law_605 (by decide) ?_
          refine lv_iadd hx hb dL_law_606 ?_
          refine va_sld hx hb hX hbl hbA hp.2 iv1 dL_law_607 ?_
          refine lv_aload_n hx hb dL_law_608 rfl (q_at hl 3 rfl) ?_
          refine lv_iload_n hx hb dL_law_609 rfl (q_at hl 0 rfl) ?_
          refine lv_iconst (v := 2) hx hb dL_law_610 (by decide) ?_
          refine lv_iadd hx hb dL_law_611 ?_
          refine va_sld hx hb hX hbl hbA hp.2 iv2 dL_law_612 ?_
          have hf1 := hf0 rmX7_lay.cells rmX7_lay.slots (Nat.le_of_ble_eq_true rfl) (Nat.le_of_ble_eq_true rfl)
          refine q_finI C hp (q_runV (As := [.int (xs (nI (7 * j) + 1).toNatClampNeg), .int (xs (nI (7 * j) + 2).toNatClampNeg)]) (rest := []) C hp (RX7_lay l D g _ ax (xs (nI (7 * j) + 1).toNatClampNeg) (xs (nI (7 * j) + 2).toNatClampNeg) _ h _) (cwV 2 C.2.2.2.2.1 gL_law_X7_lay rfl rfl rfl (by decide +kernel) ⟨Nat.le_of_ble_eq_true rfl, Nat.le_of_ble_eq_true rfl⟩) h.1 rfl rfl hl.1.1 rfl (Nat.le_of_ble_eq_true rfl) dL_law_613 hf1) (fun r_1 S H locs h hp => ?_)
          refine lv_aload_n hx hb dL_law_616 rfl (q_at hl 1 rfl) ?_
          refine lv_aload_n hx hb dL_law_617 rfl (q_at hl 3 rfl) ?_
          refine lv_iload_n hx hb dL_law_618 rfl (q_at hl 0 rfl) ?_
          refine lv_iconst (v := 1) hx hb dL_law_619 (by decide) ?_
          refine lv_iadd hx hb dL_law_620 ?_
          refine va_sld hx hb hX hbl hbA hp.2 iv1 dL_law_621 ?_
          refine lv_aload_n hx hb dL_law_622 rfl (q_at hl 3 rfl) ?_
          refine lv_iload_n hx hb dL_law_623 rfl (q_at hl 0 rfl) ?_
          refine lv_iconst (v := 2) hx hb dL_law_624 (by decide) ?_
          refine lv_iadd hx hb dL_law_625 ?_
          refine va_sld hx hb hX hbl hbA hp.2 iv2 dL_law_626 ?_
          refine q_finI0 C hp (q_runV (As := [.int (xs (nI (7 * j) + 1).toNatClampNeg), .int (xs (nI (7 * j) + 2).toNatClampNeg)]) (rest := [.int r_1]) C hp (RX8_lay l D g _ am (xs (nI (7 * j) + 1).toNatClampNeg) (xs (nI (7 * j) + 2).toNatClampNeg) _ h _) (cwV 2 C.2.2.2.2.1 gL_law_X8_lay rfl rfl rfl (by decide +kernel) ⟨Nat.le_of_ble_eq_true rfl, Nat.le_of_ble_eq_true rfl⟩) h.1 rfl rfl hl.1.1 rfl (Nat.le_of_ble_eq_true rfl) dL_law_627 ⟨hf1.1, hf1.2⟩) rfl rfl (fun r_2 S H locs h hp => ?_)
          refine lv_icmp_eq (tgt := 800) hx hb dL_law_630 (by decide) (fun c2 => ?_) (fun c2 => absurd h.1 c2)
          refine W.widen (k := 45 + 5 * (j + 1)) (n := 21896 + 1605 * (j + 1)) (show 45 + 5 * j + rmX7_lay.cells ≤ _ from by have : rmX7_lay.cells ≤ 5 := (Nat.le_of_ble_eq_true rfl); omega) (show 21896 + 1605 * j + rmX7_lay.slots ≤ _ from by have : rmX7_lay.slots ≤ 1605 := (Nat.le_of_ble_eq_true rfl); omega) ?_
          exact hback S H locs ls h.2 hp hl
        · refine lv_tableIn (off := 602) (tgt := 635) hx hb dL_law_33 (by omega) (by omega) (by rw [hc]; rfl) (by decide) ?_
          have h := (ops S hI).2.2.2.2.2.2.2.2.2.2.2.2.2.2.2.1 (xs (nI (7 * j) + 1).toNatClampNeg)
          refine lv_aload_n hx hb dL_law_635 rfl (q_at hl 2 rfl) ?_
          refine lv_aload_n hx hb dL_law_636 rfl (q_at hl 3 rfl) ?_
          refine lv_iload_n hx hb dL_law_637 rfl (q_at hl 0 rfl) ?_
          refine lv_iconst (v := 1) hx hb dL_law_638 (by decide) ?_
          refine lv_iadd hx hb dL_law_639 ?_
          refine va_sld hx hb hX hbl hbA hp.2 iv1 dL_law_640 ?_
          have hf1 := hf0 rmX7_pages.cells rmX7_pages.slots (Nat.le_of_ble_eq_true rfl) (Nat.le_of_ble_eq_true rfl)
          refine q_finI C hp (q_runV (As := [.int (xs (nI (7 * j) + 1).toNatClampNeg)]) (rest := []) C hp (RX7_pages l D g _ ax (xs (nI (7 * j) + 1).toNatClampNeg) _ h _) (cwV 1 C.2.2.2.2.1 gL_law_X7_pages rfl rfl rfl (by decide +kernel) ⟨Nat.le_of_ble_eq_true rfl, Nat.le_of_ble_eq_true rfl⟩) h.1 rfl rfl hl.1.1 rfl (Nat.le_of_ble_eq_true rfl) dL_law_641 hf1) (fun r_1 S H locs h hp => ?_)
          refine lv_aload_n hx hb dL_law_644 rfl (q_at hl 1 rfl) ?_
          refine lv_aload_n hx hb dL_law_645 rfl (q_at hl 3 rfl) ?_
          refine lv_iload_n hx hb dL_law_646 rfl (q_at hl 0 rfl) ?_
          refine lv_iconst (v := 1) hx hb dL_law_647 (by decide) ?_
          refine lv_iadd hx hb dL_law_648 ?_
          refine va_sld hx hb hX hbl hbA hp.2 iv1 dL_law_649 ?_
          refine q_finI0 C hp (q_runV (As := [.int (xs (nI (7 * j) + 1).toNatClampNeg)]) (rest := [.int r_1]) C hp (RX8_pages l D g _ am (xs (nI (7 * j) + 1).toNatClampNeg) _ h _) (cwV 1 C.2.2.2.2.1 gL_law_X8_pages rfl rfl rfl (by decide +kernel) ⟨Nat.le_of_ble_eq_true rfl, Nat.le_of_ble_eq_true rfl⟩) h.1 rfl rfl hl.1.1 rfl (Nat.le_of_ble_eq_true rfl) dL_law_650 ⟨hf1.1, hf1.2⟩) rfl rfl (fun r_2 S H locs h hp => ?_)
          refine lv_icmp_eq (tgt := 800) hx hb dL_law_653 (by decide) (fun c2 => ?_) (fun c2 => absurd h.1 c2)
          refine W.widen (k := 45 + 5 * (j + 1)) (n := 21896 + 1605 * (j + 1)) (show 45 + 5 * j + rmX7_pages.cells ≤ _ from by have : rmX7_pages.cells ≤ 5 := (Nat.le_of_ble_eq_true rfl); omega) (show 21896 + 1605 * j + rmX7_pages.slots ≤ _ from by have : rmX7_pages.slots ≤ 1605 := (Nat.le_of_ble_eq_true rfl); omega) ?_
          exact hback S H locs ls h.2 hp hl
        · refine lv_tableIn (off := 625) (tgt := 658) hx hb dL_law_33 (by omega) (by omega) (by rw [hc]; rfl) (by decide) ?_
          have h := (ops S hI).2.2.2.2.2.2.2.2.2.2.2.2.2.2.2.2.1 (xs (nI (7 * j) + 1).toNatClampNeg) (xs (nI (7 * j) + 2).toNatClampNeg) (xs (nI (7 * j) + 3).toNatClampNeg)
          refine lv_aload_n hx hb dL_law_658 rfl (q_at hl 2 rfl) ?_
          refine lv_aload_n hx hb dL_law_659 rfl (q_at hl 3 rfl) ?_
          refine lv_iload_n hx hb dL_law_660 rfl (q_at hl 0 rfl) ?_
          refine lv_iconst (v := 1) hx hb dL_law_661 (by decide) ?_
          refine lv_iadd hx hb dL_law_662 ?_
          refine va_sld hx hb hX hbl hbA hp.2 iv1 dL_law_663 ?_
          refine lv_aload_n hx hb dL_law_664 rfl (q_at hl 3 rfl) ?_
          refine lv_iload_n hx hb dL_law_665 rfl (q_at hl 0 rfl) ?_
          refine lv_iconst (v := 2) hx hb dL_law_666 (by decide) ?_
          refine lv_iadd hx hb dL_law_667 ?_
          refine va_sld hx hb hX hbl hbA hp.2 iv2 dL_law_668 ?_
          refine lv_aload_n hx hb dL_law_669 rfl (q_at hl 3 rfl) ?_
          refine lv_iload_n hx hb dL_law_670 rfl (q_at hl 0 rfl) ?_
          refine lv_iconst (v := 3) hx hb dL_law_671 (by decide) ?_
          refine lv_iadd hx hb dL_law_672 ?_
          refine va_sld hx hb hX hbl hbA hp.2 iv3 dL_law_673 ?_
          have hf1 := hf0 rmX7_page.cells rmX7_page.slots (Nat.le_of_ble_eq_true rfl) (Nat.le_of_ble_eq_true rfl)
          refine q_finI C hp (q_runV (As := [.int (xs (nI (7 * j) + 1).toNatClampNeg), .int (xs (nI (7 * j) + 2).toNatClampNeg), .int (xs (nI (7 * j) + 3).toNatClampNeg)]) (rest := []) C hp (RX7_page l D g _ ax (xs (nI (7 * j) + 1).toNatClampNeg) (xs (nI (7 * j) + 2).toNatClampNeg) (xs (nI (7 * j) + 3).toNatClampNeg) _ h _) (cwV 3 C.2.2.2.2.1 gL_law_X7_page rfl rfl rfl (by decide +kernel) ⟨Nat.le_of_ble_eq_true rfl, Nat.le_of_ble_eq_true rfl⟩) h.1 rfl rfl hl.1.1 rfl (Nat.le_of_ble_eq_true rfl) dL_law_674 hf1) (fun r_1 S H locs h hp => ?_)
          refine lv_aload_n hx hb dL_law_677 rfl (q_at hl 1 rfl) ?_
          refine lv_aload_n hx hb dL_law_678 rfl (q_at hl 3 rfl) ?_
          refine lv_iload_n hx hb dL_law_679 rfl (q_at hl 0 rfl) ?_
          refine lv_iconst (v := 1) hx hb dL_law_680 (by decide) ?_
          refine lv_iadd hx hb dL_law_681 ?_
          refine va_sld hx hb hX hbl hbA hp.2 iv1 dL_law_682 ?_
          refine lv_aload_n hx hb dL_law_683 rfl (q_at hl 3 rfl) ?_
          refine lv_iload_n hx hb dL_law_684 rfl (q_at hl 0 rfl) ?_
          refine lv_iconst (v := 2) hx hb dL_law_685 (by decide) ?_
          refine lv_iadd hx hb dL_law_686 ?_
          refine va_sld hx hb hX hbl hbA hp.2 iv2 dL_law_687 ?_
          refine lv_aload_n hx hb dL_law_688 rfl (q_at hl 3 rfl) ?_
          refine lv_iload_n hx hb dL_law_689 rfl (q_at hl 0 rfl) ?_
          refine lv_iconst (v := 3) hx hb dL_law_690 (by decide) ?_
          refine lv_iadd hx hb dL_law_691 ?_
          refine va_sld hx hb hX hbl hbA hp.2 iv3 dL_law_692 ?_
          refine q_finI0 C hp (q_runV (As := [.int (xs (nI (7 * j) + 1).toNatClampNeg), .int (xs (nI (7 * j) + 2).toNatClampNeg), .int (xs (nI (7 * j) + 3).toNatClampNeg)]) (rest := [.int r_1]) C hp (RX8_page l D g _ am (xs (nI (7 * j) + 1).toNatClampNeg) (xs (nI (7 * j) + 2).toNatClampNeg) (xs (nI (7 * j) + 3).toNatClampNeg) _ h _) (cwV 3 C.2.2.2.2.1 gL_law_X8_page rfl rfl rfl (by decide +kernel) ⟨Nat.le_of_ble_eq_true rfl, Nat.le_of_ble_eq_true rfl⟩) h.1 rfl rfl hl.1.1 rfl (Nat.le_of_ble_eq_true rfl) dL_law_693 ⟨hf1.1, hf1.2⟩) rfl rfl (fun r_2 S H locs h hp => ?_)
          refine lv_icmp_eq (tgt := 800) hx hb dL_law_696 (by decide) (fun c2 => ?_) (fun c2 => absurd h.1 c2)
          refine W.widen (k := 45 + 5 * (j + 1)) (n := 21896 + 1605 * (j + 1)) (show 45 + 5 * j + rmX7_page.cells ≤ _ from by have : rmX7_page.cells ≤ 5 := (Nat.le_of_ble_eq_true rfl); omega) (show 21896 + 1605 * j + rmX7_page.slots ≤ _ from by have : rmX7_page.slots ≤ 1605 := (Nat.le_of_ble_eq_true rfl); omega) ?_
          exact hback S H locs ls h.2 hp hl
        · refine lv_tableIn (off := 668) (tgt := 701) hx hb dL_law_33 (by omega) (by omega) (by rw [hc]; rfl) (by decide) ?_
          have h := (ops S hI).2.2.2.2.2.2.2.2.2.2.2.2.2.2.2.2.2.1 (xs (nI (7 * j) + 1).toNatClampNeg) (xs (nI (7 * j) + 2).toNatClampNeg) (xs (nI (7 * j) + 3).toNatClampNeg)
          refine lv_aload_n hx hb dL_law_701 rfl (q_at hl 2 rfl) ?_
          refine lv_aload_n hx hb dL_law_702 rfl (q_at hl 3 rfl) ?_
          refine lv_iload_n hx hb dL_law_703 rfl (q_at hl 0 rfl) ?_
          refine lv_iconst (v := 1) hx hb dL_law_704 (by decide) ?_
          refine lv_iadd hx hb dL_law_705 ?_
          refine va_sld hx hb hX hbl hbA hp.2 iv1 dL_law_706 ?_
          refine lv_aload_n hx hb dL_law_707 rfl (q_at hl 3 rfl) ?_
          refine lv_iload_n hx hb dL_law_708 rfl (q_at hl 0 rfl) ?_
          refine lv_iconst (v := 2) hx hb dL_law_709 (by decide) ?_
          refine lv_iadd hx hb dL_law_710 ?_
          refine va_sld hx hb hX hbl hbA hp.2 iv2 dL_law_711 ?_
          refine lv_aload_n hx hb dL_law_712 rfl (q_at hl 3 rfl) ?_
          refine lv_iload_n hx hb dL_law_713 rfl (q_at hl 0 rfl) ?_
          refine lv_iconst (v := 3) hx hb dL_law_714 (by decide) ?_
          refine lv_iadd hx hb dL_law_715 ?_
          refine va_sld hx hb hX hbl hbA hp.2 iv3 dL_law_716 ?_
          have hf1 := hf0 rmX7_condensed.cells rmX7_condensed.slots (Nat.le_of_ble_eq_true rfl) (Nat.le_of_ble_eq_true rfl)
          refine q_finI C hp (q_runV (As := [.int (xs (nI (7 * j) + 1).toNatClampNeg), .int (xs (nI (7 * j) + 2).toNatClampNeg), .int (xs (nI (7 * j) + 3).toNatClampNeg)]) (rest := []) C hp (RX7_condensed l D g _ ax (xs (nI (7 * j) + 1).toNatClampNeg) (xs (nI (7 * j) + 2).toNatClampNeg) (xs (nI (7 * j) + 3).toNatClampNeg) _ h _) (cwV 3 C.2.2.2.2.1 gL_law_X7_condensed rfl rfl rfl (by decide +kernel) ⟨Nat.le_of_ble_eq_true rfl, Nat.le_of_ble_eq_true rfl⟩) h.1 rfl rfl hl.1.1 rfl (Nat.le_of_ble_eq_true rfl) dL_law_717 hf1) (fun r_1 S H locs h hp => ?_)
          refine lv_aload_n hx hb dL_law_720 rfl (q_at hl 1 rfl) ?_
          refine lv_aload_n hx hb dL_law_721 rfl (q_at hl 3 rfl) ?_
          refine lv_iload_n hx hb dL_law_722 rfl (q_at hl 0 rfl) ?_
          refine lv_iconst (v := 1) hx hb dL_law_723 (by decide) ?_
          refine lv_iadd hx hb dL_law_724 ?_
          refine va_sld hx hb hX hbl hbA hp.2 iv1 dL_law_725 ?_
          refine lv_aload_n hx hb dL_law_726 rfl (q_at hl 3 rfl) ?_
          refine lv_iload_n hx hb dL_law_727 rfl (q_at hl 0 rfl) ?_
          refine lv_iconst (v := 2) hx hb dL_law_728 (by decide) ?_
          refine lv_iadd hx hb dL_law_729 ?_
          refine va_sld hx hb hX hbl hbA hp.2 iv2 dL_law_730 ?_
          refine lv_aload_n hx hb dL_law_731 rfl (q_at hl 3 rfl) ?_
          refine lv_iload_n hx hb dL_law_732 rfl (q_at hl 0 rfl) ?_
          refine lv_iconst (v := 3) hx hb dL_law_733 (by decide) ?_
          refine lv_iadd hx hb dL_law_734 ?_
          refine va_sld hx hb hX hbl hbA hp.2 iv3 dL_law_735 ?_
          refine q_finI0 C hp (q_runV (As := [.int (xs (nI (7 * j) + 1).toNatClampNeg), .int (xs (nI (7 * j) + 2).toNatClampNeg), .int (xs (nI (7 * j) + 3).toNatClampNeg)]) (rest := [.int r_1]) C hp (RX8_condensed l D g _ am (xs (nI (7 * j) + 1).toNatClampNeg) (xs (nI (7 * j) + 2).toNatClampNeg) (xs (nI (7 * j) + 3).toNatClampNeg) _ h _) (cwV 3 C.2.2.2.2.1 gL_law_X8_condensed rfl rfl rfl (by decide +kernel) ⟨Nat.le_of_ble_eq_true rfl, Nat.le_of_ble_eq_true rfl⟩) h.1 rfl rfl hl.1.1 rfl (Nat.le_of_ble_eq_true rfl) dL_law_736 ⟨hf1.1, hf1.2⟩) rfl rfl (fun r_2 S H locs h hp => ?_)
          refine lv_icmp_eq (tgt := 800) hx hb dL_law_739 (by decide) (fun c2 => ?_) (fun c2 => absurd h.1 c2)
          refine W.widen (k := 45 + 5 * (j + 1)) (n := 21896 + 1605 * (j + 1)) (show 45 + 5 * j + rmX7_condensed.cells ≤ _ from by have : rmX7_condensed.cells ≤ 5 := (Nat.le_of_ble_eq_true rfl); omega) (show 21896 + 1605 * j + rmX7_condensed.slots ≤ _ from by have : rmX7_condensed.slots ≤ 1605 := (Nat.le_of_ble_eq_true rfl); omega) ?_
          exact hback S H locs ls h.2 hp hl
        · refine lv_tableIn (off := 711) (tgt := 744) hx hb dL_law_33 (by omega) (by omega) (by rw [hc]; rfl) (by decide) ?_
          have h := (ops S hI).2.2.2.2.2.2.2.2.2.2.2.2.2.2.2.2.2.2.1 (xs (nI (7 * j) + 1).toNatClampNeg) (xs (nI (7 * j) + 2).toNatClampNeg)
          refine lv_aload_n hx hb dL_law_744 rfl (q_at hl 2 rfl) ?_
          refine lv_aload_n hx hb dL_law_745 rfl (q_at hl 3 rfl) ?_
          refine lv_iload_n hx hb dL_law_746 rfl (q_at hl 0 rfl) ?_
          refine lv_iconst (v := 1) hx hb dL_law_747 (by decide) ?_
          refine lv_iadd hx hb dL_law_748 ?_
          refine va_sld hx hb hX hbl hbA hp.2 iv1 dL_law_749 ?_
          refine lv_aload_n hx hb dL_law_750 rfl (q_at hl 3 rfl) ?_
          refine lv_iload_n hx hb dL_law_751 rfl (q_at hl 0 rfl) ?_
          refine lv_iconst (v := 2) hx hb dL_law_752 (by decide) ?_
          refine lv_iadd hx hb dL_law_753 ?_
          refine va_sld hx hb hX hbl hbA hp.2 iv2 dL_law_754 ?_
          have hf1 := hf0 rmX7_together.cells rmX7_together.slots (Nat.le_of_ble_eq_true rfl) (Nat.le_of_ble_eq_true rfl)
          refine q_finI C hp (q_runV (As := [.int (xs (nI (7 * j) + 1).toNatClampNeg), .int (xs (nI (7 * j) + 2).toNatClampNeg)]) (rest := []) C hp (RX7_together l D g _ ax (xs (nI (7 * j) + 1).toNatClampNeg) (xs (nI (7 * j) + 2).toNatClampNeg) _ h _) (cwV 2 C.2.2.2.2.1 gL_law_X7_together rfl rfl rfl (by decide +kernel) ⟨Nat.le_of_ble_eq_true rfl, Nat.le_of_ble_eq_true rfl⟩) h.1 rfl rfl hl.1.1 rfl (Nat.le_of_ble_eq_true rfl) dL_law_755 hf1) (fun r_1 S H locs h hp => ?_)
          refine lv_aload_n hx hb dL_law_758 rfl (q_at hl 1 rfl) ?_
          refine lv_aload_n hx hb dL_law_759 rfl (q_at hl 3 rfl) ?_
          refine lv_iload_n hx hb dL_law_760 rfl (q_at hl 0 rfl) ?_
          refine lv_iconst (v := 1) hx hb dL_law_761 (by decide) ?_
          refine lv_iadd hx hb dL_law_762 ?_
          refine va_sld hx hb hX hbl hbA hp.2 iv1 dL_law_763 ?_
          refine lv_aload_n hx hb dL_law_764 rfl (q_at hl 3 rfl) ?_
          refine lv_iload_n hx hb dL_law_765 rfl (q_at hl 0 rfl) ?_
          refine lv_iconst (v := 2) hx hb dL_law_766 (by decide) ?_
          refine lv_iadd hx hb dL_law_767 ?_
          refine va_sld hx hb hX hbl hbA hp.2 iv2 dL_law_768 ?_
          refine q_finI0 C hp (q_runV (As := [.int (xs (nI (7 * j) + 1).toNatClampNeg), .int (xs (nI (7 * j) + 2).toNatClampNeg)]) (rest := [.int r_1]) C hp (RX8_together l D g _ am (xs (nI (7 * j) + 1).toNatClampNeg) (xs (nI (7 * j) + 2).toNatClampNeg) _ h _) (cwV 2 C.2.2.2.2.1 gL_law_X8_together rfl rfl rfl (by decide +kernel) ⟨Nat.le_of_ble_eq_true rfl, Nat.le_of_ble_eq_true rfl⟩) h.1 rfl rfl hl.1.1 rfl (Nat.le_of_ble_eq_true rfl) dL_law_769 ⟨hf1.1, hf1.2⟩) rfl rfl (fun r_2 S H locs h hp => ?_)
          refine lv_icmp_eq (tgt := 800) hx hb dL_law_772 (by decide) (fun c2 => ?_) (fun c2 => absurd h.1 c2)
          refine W.widen (k := 45 + 5 * (j + 1)) (n := 21896 + 1605 * (j + 1)) (show 45 + 5 * j + rmX7_together.cells ≤ _ from by have : rmX7_together.cells ≤ 5 := (Nat.le_of_ble_eq_true rfl); omega) (show 21896 + 1605 * j + rmX7_together.slots ≤ _ from by have : rmX7_together.slots ≤ 1605 := (Nat.le_of_ble_eq_true rfl); omega) ?_
          exact hback S H locs ls h.2 hp hl
        · refine lv_tableIn (off := 744) (tgt := 777) hx hb dL_law_33 (by omega) (by omega) (by rw [hc]; rfl) (by decide) ?_
          have h := (ops S hI).2.2.2.2.2.2.2.2.2.2.2.2.2.2.2.2.2.2.2 (xs (nI (7 * j) + 1).toNatClampNeg)
          refine lv_aload_n hx hb dL_law_777 rfl (q_at hl 2 rfl) ?_
          refine lv_aload_n hx hb dL_law_778 rfl (q_at hl 3 rfl) ?_
          refine lv_iload_n hx hb dL_law_779 rfl (q_at hl 0 rfl) ?_
          refine lv_iconst (v := 1) hx hb dL_law_780 (by decide) ?_
          refine lv_iadd hx hb dL_law_781 ?_
          refine va_sld hx hb hX hbl hbA hp.2 iv1 dL_law_782 ?_
          have hf1 := hf0 rmX7_count.cells rmX7_count.slots (Nat.le_of_ble_eq_true rfl) (Nat.le_of_ble_eq_true rfl)
          refine q_finI C hp (q_runV (As := [.int (xs (nI (7 * j) + 1).toNatClampNeg)]) (rest := []) C hp (RX7_count l D g _ ax (xs (nI (7 * j) + 1).toNatClampNeg) _ h _) (cwV 1 C.2.2.2.2.1 gL_law_X7_count rfl rfl rfl (by decide +kernel) ⟨Nat.le_of_ble_eq_true rfl, Nat.le_of_ble_eq_true rfl⟩) h.1 rfl rfl hl.1.1 rfl (Nat.le_of_ble_eq_true rfl) dL_law_783 hf1) (fun r_1 S H locs h hp => ?_)
          refine lv_aload_n hx hb dL_law_786 rfl (q_at hl 1 rfl) ?_
          refine lv_aload_n hx hb dL_law_787 rfl (q_at hl 3 rfl) ?_
          refine lv_iload_n hx hb dL_law_788 rfl (q_at hl 0 rfl) ?_
          refine lv_iconst (v := 1) hx hb dL_law_789 (by decide) ?_
          refine lv_iadd hx hb dL_law_790 ?_
          refine va_sld hx hb hX hbl hbA hp.2 iv1 dL_law_791 ?_
          refine q_finI0 C hp (q_runV (As := [.int (xs (nI (7 * j) + 1).toNatClampNeg)]) (rest := [.int r_1]) C hp (RX8_count l D g _ am (xs (nI (7 * j) + 1).toNatClampNeg) _ h _) (cwV 1 C.2.2.2.2.1 gL_law_X8_count rfl rfl rfl (by decide +kernel) ⟨Nat.le_of_ble_eq_true rfl, Nat.le_of_ble_eq_true rfl⟩) h.1 rfl rfl hl.1.1 rfl (Nat.le_of_ble_eq_true rfl) dL_law_792 ⟨hf1.1, hf1.2⟩) rfl rfl (fun r_2 S H locs h hp => ?_)
          refine lv_icmp_eq (tgt := 800) hx hb dL_law_795 (by decide) (fun c2 => ?_) (fun c2 => absurd h.1 c2)
          refine W.widen (k := 45 + 5 * (j + 1)) (n := 21896 + 1605 * (j + 1)) (show 45 + 5 * j + rmX7_count.cells ≤ _ from by have : rmX7_count.cells ≤ 5 := (Nat.le_of_ble_eq_true rfl); omega) (show 21896 + 1605 * j + rmX7_count.slots ≤ _ from by have : rmX7_count.slots ≤ 1605 := (Nat.le_of_ble_eq_true rfl); omega) ?_
          exact hback S H locs ls h.2 hp hl
