set_option maxHeartbeats 2000000 in
theorem EX8_in {ad : Nat → Nat} {nv : Nat} {md : Nat → Bool} {A : q_St} {S : q_S} {x0 : Int32} {x1 : Int32} {x2 : Int32} (h : Rep ad nv md A S) {Q1 : Int32 → q_St → Prop} {Q2 : Int32 → q_S → Prop} (ha : aX8_in nv md x0 x1 x2 Q1 A) (hq : ∀ (r : Int32) (A : q_St) (S : q_S), Rep ad nv md A S → Q1 r A → Q2 r S) : wX8_in x0 x1 x2 Q2 S := by
  unfold wX8_in
  unfold aX8_in at ha
  refine ⟨fun c_1 => ?_, fun c_1 => ?_⟩
  · replace ha := ha.1 c_1
    exact ⟨ha.1, hq _ _ _ h ha.2⟩
  · replace ha := ha.2 c_1
    refine ⟨fun c_2 => ?_, fun c_2 => ?_⟩
    · replace ha := ha.1 c_2
      exact ⟨ha.1, hq _ _ _ h ha.2⟩
    · replace ha := ha.2 c_2
      exact ⟨ha.1, hq _ _ _ h ha.2⟩
set_option maxHeartbeats 2000000 in
theorem EX8_isVoice {ad : Nat → Nat} {nv : Nat} {md : Nat → Bool} {A : q_St} {S : q_S} {x1 : Int32} (h : Rep ad nv md A S) {Q1 : Int32 → q_St → Prop} {Q2 : Int32 → q_S → Prop} (ha : aX8_isVoice nv md x1 Q1 A) (hq : ∀ (r : Int32) (A : q_St) (S : q_S), Rep ad nv md A S → Q1 r A → Q2 r S) : wX8_isVoice (ad 128) x1 Q2 S := by
  unfold wX8_isVoice
  unfold aX8_isVoice at ha
  refine ⟨⟨_, cX8 h⟩, ?_⟩
  refine ⟨_, _, cX8 h, rfl, ?_⟩
  refine EX8_in h ha (fun v_2 A_1 S h ha => ?_)
  exact ⟨ha.1, hq _ _ _ h ha.2⟩
set_option maxHeartbeats 2000000 in
theorem EX8_isBar {ad : Nat → Nat} {nv : Nat} {md : Nat → Bool} {A : q_St} {S : q_S} {x1 : Int32} (h : Rep ad nv md A S) {Q1 : Int32 → q_St → Prop} {Q2 : Int32 → q_S → Prop} (ha : aX8_isBar nv md x1 Q1 A) (hq : ∀ (r : Int32) (A : q_St) (S : q_S), Rep ad nv md A S → Q1 r A → Q2 r S) : wX8_isBar (ad 128) x1 Q2 S := by
  unfold wX8_isBar
  unfold aX8_isBar at ha
  refine ⟨⟨_, cX8 h⟩, ?_⟩
  refine ⟨_, _, cX8 h, rfl, ?_⟩
  refine EX8_in h ha (fun v_2 A_1 S h ha => ?_)
  exact ⟨ha.1, hq _ _ _ h ha.2⟩
set_option maxHeartbeats 2000000 in
theorem EX8_voice {ad : Nat → Nat} {nv : Nat} {md : Nat → Bool} {A : q_St} {S : q_S} (h : Rep ad nv md A S) {Q1 : Int32 → q_St → Prop} {Q2 : Int32 → q_S → Prop} (ha : aX8_voice nv md Q1 A) (hq : ∀ (r : Int32) (A : q_St) (S : q_S), Rep ad nv md A S → Q1 r A → Q2 r S) : wX8_voice (ad 128) Q2 S := by
  unfold wX8_voice
  unfold aX8_voice at ha
  refine ⟨⟨_, cX8 h⟩, ?_⟩
  refine ⟨_, _, cX8 h, rfl, ?_⟩
  refine ⟨fun c_1 => ?_, fun c_1 => ?_⟩
  · replace ha := ha.1 c_1
    refine ⟨_, _, cX8 h, rfl, ?_⟩
    refine e_pX8_0 h ha (fun A_2 S h ha => ?_)
    refine ⟨_, _, cX8 h, rfl, ?_⟩
    exact hq _ _ _ h ha
  · replace ha := ha.2 c_1
    exact hq _ _ _ h ha
set_option maxHeartbeats 2000000 in
theorem EX8_bars {ad : Nat → Nat} {nv : Nat} {md : Nat → Bool} {A : q_St} {S : q_S} {x1 : Int32} (h : Rep ad nv md A S) {Q1 : Int32 → q_St → Prop} {Q2 : Int32 → q_S → Prop} (ha : aX8_bars nv md x1 Q1 A) (hq : ∀ (r : Int32) (A : q_St) (S : q_S), Rep ad nv md A S → Q1 r A → Q2 r S) : wX8_bars (ad 128) x1 Q2 S := by
  have j51 : ∀ (k15 : Int32 → Int32 → q_St → Prop) (m15 : Nat → Int32 → Int32 → q_S → Prop) (ih15 : ∀ (x1 : Int32) (x2 : Int32) (A : q_St) (S : q_S), Rep ad nv md A S → k15 x1 x2 A → m15 (ad 128) x1 x2 S) (n : Nat), ∀ (x1 : Int32) (x2 : Int32) (x3 : Int32) (A : q_St) (S : q_S), Rep ad nv md A S → alX8_bars_b51 nv md Q1 k15 n x1 x2 x3 A → lX8_bars_b51 Q2 m15 n (ad 128) x1 x2 x3 S := by
    intro k15 m15 ih15
    intro n
    induction n with
    | zero => intro x1 x2 x3 A S h ha; exact absurd ha (fun h => h)
    | succ n ih51 =>
      intro x1 x2 x3 A S h ha
      show wX8_bars_b51 Q2 m15 (lX8_bars_b51 Q2 m15 n) (ad 128) x1 x2 x3 S
      have ha : aX8_bars_b51 nv md Q1 k15 (alX8_bars_b51 nv md Q1 k15 n) x1 x2 x3 A := ha
      unfold wX8_bars_b51
      unfold aX8_bars_b51 at ha
      refine ⟨fun c_1 => ?_, fun c_1 => ?_⟩
      · replace ha := ha.1 c_1
        exact ih15 x1 (x2 + (1 : Int32)) _ _ h ha
      · replace ha := ha.2 c_1
        refine ⟨_, _, cX8 h, rfl, ?_⟩
        refine e_sz h isaX8_hasMark ha (fun A_2 S h ha => ?_)
        exact ih51 x1 x2 (x3 + (1 : Int32)) _ _ h ha
  have j25 : ∀ (k15 : Int32 → Int32 → q_St → Prop) (m15 : Nat → Int32 → Int32 → q_S → Prop) (ih15 : ∀ (x1 : Int32) (x2 : Int32) (A : q_St) (S : q_S), Rep ad nv md A S → k15 x1 x2 A → m15 (ad 128) x1 x2 S) (n : Nat), ∀ (x1 : Int32) (x2 : Int32) (x3 : Int32) (A : q_St) (S : q_S), Rep ad nv md A S → alX8_bars_b25 nv md Q1 k15 n x1 x2 x3 A → lX8_bars_b25 Q2 m15 n (ad 128) x1 x2 x3 S := by
    intro k15 m15 ih15
    intro n
    induction n with
    | zero => intro x1 x2 x3 A S h ha; exact absurd ha (fun h => h)
    | succ n ih25 =>
      intro x1 x2 x3 A S h ha
      show wX8_bars_b25 Q2 m15 (lX8_bars_b25 Q2 m15 n) (ad 128) x1 x2 x3 S
      have ha : aX8_bars_b25 nv md Q1 k15 (alX8_bars_b25 nv md Q1 k15 n) x1 x2 x3 A := ha
      unfold wX8_bars_b25
      unfold aX8_bars_b25 at ha
      refine ⟨fun c_3 => ?_, fun c_3 => ?_⟩
      · replace ha := ha.1 c_3
        exact j51 k15 _ ih15 q_fuel x1 x2 (0 : Int32) _ _ h ha
      · replace ha := ha.2 c_3
        refine ⟨_, _, cX8 h, rfl, ?_⟩
        refine e_s h isaX8_many ha (fun A_4 S h ha => ?_)
        exact ih25 x1 x2 (x3 + (1 : Int32)) _ _ h ha
  have j15 : ∀ (n : Nat), ∀ (x1 : Int32) (x2 : Int32) (A : q_St) (S : q_S), Rep ad nv md A S → alX8_bars_b15 nv md Q1 n x1 x2 A → lX8_bars_b15 Q2 n (ad 128) x1 x2 S := by
    intro n
    induction n with
    | zero => intro x1 x2 A S h ha; exact absurd ha (fun h => h)
    | succ n ih15 =>
      intro x1 x2 A S h ha
      show wX8_bars_b15 Q2 (lX8_bars_b15 Q2 n) (ad 128) x1 x2 S
      have ha : aX8_bars_b15 nv md Q1 (alX8_bars_b15 nv md Q1 n) x1 x2 A := ha
      unfold wX8_bars_b15
      unfold aX8_bars_b15 at ha
      refine ⟨_, _, cX8 h, rfl, ?_⟩
      refine ⟨fun c_5 => ?_, fun c_5 => ?_⟩
      · replace ha := ha.1 c_5
        refine ⟨_, _, cX8 h, rfl, ?_⟩
        refine e_pX8_1 h ha (fun A_6 S h ha => ?_)
        exact hq _ _ _ h ha
      · replace ha := ha.2 c_5
        exact j25 (alX8_bars_b15 nv md Q1 n) _ ih15 q_fuel x1 x2 (0 : Int32) _ _ h ha
  unfold wX8_bars
  unfold aX8_bars at ha
  refine ⟨⟨_, cX8 h⟩, ?_⟩
  refine EX8_in h ha (fun v_8 A_7 S h ha => ?_)
  refine ⟨fun c_9 => ?_, fun c_9 => ?_⟩
  · replace ha := ha.1 c_9
    exact j15 q_fuel x1 x1 _ _ h ha
  · replace ha := ha.2 c_9
    exact hq _ _ _ h ha
set_option maxHeartbeats 2000000 in
theorem EX8_floorMod {ad : Nat → Nat} {nv : Nat} {md : Nat → Bool} {A : q_St} {S : q_S} {x0 : Int32} {x1 : Int32} (h : Rep ad nv md A S) {Q1 : Int32 → q_St → Prop} {Q2 : Int32 → q_S → Prop} (ha : aX8_floorMod nv md x0 x1 Q1 A) (hq : ∀ (r : Int32) (A : q_St) (S : q_S), Rep ad nv md A S → Q1 r A → Q2 r S) : wX8_floorMod x0 x1 Q2 S := by
  unfold wX8_floorMod
  unfold aX8_floorMod at ha
  refine ⟨ha.1, ?_⟩
  replace ha := ha.2
  refine ⟨fun c_1 => ?_, fun c_1 => ?_⟩
  · replace ha := ha.1 c_1
    exact hq _ _ _ h ha
  · replace ha := ha.2 c_1
    exact hq _ _ _ h ha
set_option maxHeartbeats 2000000 in
theorem EX8_note {ad : Nat → Nat} {nv : Nat} {md : Nat → Bool} {A : q_St} {S : q_S} {x1 : Int32} {x2 : Int32} {x3 : Int32} {x4 : Int32} {x5 : Int32} {x6 : Int32} (h : Rep ad nv md A S) {Q1 : Int32 → q_St → Prop} {Q2 : Int32 → q_S → Prop} (ha : aX8_note nv md x1 x2 x3 x4 x5 x6 Q1 A) (hq : ∀ (r : Int32) (A : q_St) (S : q_S), Rep ad nv md A S → Q1 r A → Q2 r S) : wX8_note (ad 128) x1 x2 x3 x4 x5 x6 Q2 S := by
  have j303 : ∀ (x3 : Int32) (x4 : Int32) (x5 : Int32) (x6 : Int32) (x7 : Int32) (x8 : Int32) (A : q_St) (S : q_S), Rep ad nv md A S → aX8_note_b303 nv md Q1 x3 x4 x5 x6 x7 x8 A → wX8_note_b303 Q2 (ad 128) x3 x4 x5 x6 x7 x8 S := by
    intro x3 x4 x5 x6 x7 x8 A S h ha
    unfold wX8_note_b303
    unfold aX8_note_b303 at ha
    refine ⟨_, _, cX8 h, rfl, ?_⟩
    refine e_s h isaX8_start ha (fun A_1 S h ha => ?_)
    refine ⟨_, _, cX8 h, rfl, ?_⟩
    refine e_s h isaX8_length ha (fun A_2 S h ha => ?_)
    refine ⟨_, _, cX8 h, rfl, ?_⟩
    refine e_s h isaX8_pitch ha (fun A_3 S h ha => ?_)
    refine ⟨_, _, cX8 h, rfl, ?_⟩
    refine e_s h isaX8_spelling ha (fun A_4 S h ha => ?_)
    refine ⟨_, _, cX8 h, rfl, ?_⟩
    refine e_l h isaX8_many ha (fun ha => ?_)
    refine e_s h isaX8_many ha (fun A_5 S h ha => ?_)
    refine ⟨_, _, cX8 h, rfl, ?_⟩
    refine e_l h isaX8_many ha (fun ha => ?_)
    exact hq _ _ _ h ha
  have j233 : ∀ (k183 : Int32 → Int32 → Int32 → Int32 → Int32 → Int32 → q_St → Prop) (m183 : Nat → Int32 → Int32 → Int32 → Int32 → Int32 → Int32 → q_S → Prop) (ih183 : ∀ (x3 : Int32) (x4 : Int32) (x5 : Int32) (x6 : Int32) (x7 : Int32) (x8 : Int32) (A : q_St) (S : q_S), Rep ad nv md A S → k183 x3 x4 x5 x6 x7 x8 A → m183 (ad 128) x3 x4 x5 x6 x7 x8 S) (x3 : Int32) (x4 : Int32) (x5 : Int32) (x6 : Int32) (x7 : Int32) (x8 : Int32) (A : q_St) (S : q_S), Rep ad nv md A S → aX8_note_b233 nv md Q1 k183 x3 x4 x5 x6 x7 x8 A → wX8_note_b233 Q2 m183 (ad 128) x3 x4 x5 x6 x7 x8 S := by
    intro k183 m183 ih183 x3 x4 x5 x6 x7 x8 A S h ha
    unfold wX8_note_b233
    unfold aX8_note_b233 at ha
    refine ⟨_, _, cX8 h, rfl, ?_⟩
    refine ⟨_, _, cX8 h, rfl, ?_⟩
    refine e_l h isaX8_start ha (fun ha => ?_)
    refine e_s h isaX8_start ha (fun A_6 S h ha => ?_)
    refine ⟨_, _, cX8 h, rfl, ?_⟩
    refine ⟨_, _, cX8 h, rfl, ?_⟩
    refine e_l h isaX8_length ha (fun ha => ?_)
    refine e_s h isaX8_length ha (fun A_7 S h ha => ?_)
    refine ⟨_, _, cX8 h, rfl, ?_⟩
    refine ⟨_, _, cX8 h, rfl, ?_⟩
    refine e_l h isaX8_pitch ha (fun ha => ?_)
    refine e_s h isaX8_pitch ha (fun A_8 S h ha => ?_)
    refine ⟨_, _, cX8 h, rfl, ?_⟩
    refine ⟨_, _, cX8 h, rfl, ?_⟩
    refine e_l h isaX8_spelling ha (fun ha => ?_)
    refine e_s h isaX8_spelling ha (fun A_9 S h ha => ?_)
    exact ih183 x3 x4 x5 x6 x7 (x8 + (-1 : Int32)) _ _ h ha
  have j183 : ∀ (n : Nat), ∀ (x3 : Int32) (x4 : Int32) (x5 : Int32) (x6 : Int32) (x7 : Int32) (x8 : Int32) (A : q_St) (S : q_S), Rep ad nv md A S → alX8_note_b183 nv md Q1 n x3 x4 x5 x6 x7 x8 A → lX8_note_b183 Q2 n (ad 128) x3 x4 x5 x6 x7 x8 S := by
    intro n
    induction n with
    | zero => intro x3 x4 x5 x6 x7 x8 A S h ha; exact absurd ha (fun h => h)
    | succ n ih183 =>
      intro x3 x4 x5 x6 x7 x8 A S h ha
      show wX8_note_b183 Q2 (lX8_note_b183 Q2 n) (ad 128) x3 x4 x5 x6 x7 x8 S
      have ha : aX8_note_b183 nv md Q1 (alX8_note_b183 nv md Q1 n) x3 x4 x5 x6 x7 x8 A := ha
      unfold wX8_note_b183
      unfold aX8_note_b183 at ha
      refine ⟨fun c_10 => ?_, fun c_10 => ?_⟩
      · replace ha := ha.1 c_10
        exact j303 x3 x4 x5 x6 x7 x8 _ _ h ha
      · replace ha := ha.2 c_10
        refine ⟨_, _, cX8 h, rfl, ?_⟩
        refine e_l h isaX8_start ha (fun ha => ?_)
        refine ⟨fun c_11 => ?_, fun c_11 => ?_⟩
        · replace ha := ha.1 c_11
          exact j233 (alX8_note_b183 nv md Q1 n) _ ih183 x3 x4 x5 x6 x7 x8 _ _ h ha
        · replace ha := ha.2 c_11
          refine ⟨_, _, cX8 h, rfl, ?_⟩
          refine e_l h isaX8_start ha (fun ha => ?_)
          refine ⟨fun c_12 => ?_, fun c_12 => ?_⟩
          · replace ha := ha.1 c_12
            exact j303 x3 x4 x5 x6 x7 x8 _ _ h ha
          · replace ha := ha.2 c_12
            refine ⟨_, _, cX8 h, rfl, ?_⟩
            refine e_l h isaX8_pitch ha (fun ha => ?_)
            refine ⟨fun c_13 => ?_, fun c_13 => ?_⟩
            · replace ha := ha.1 c_13
              exact j303 x3 x4 x5 x6 x7 x8 _ _ h ha
            · replace ha := ha.2 c_13
              exact j233 (alX8_note_b183 nv md Q1 n) _ ih183 x3 x4 x5 x6 x7 x8 _ _ h ha
  have j147 : ∀ (k97 : Int32 → Int32 → Int32 → Int32 → Int32 → Int32 → q_St → Prop) (m97 : Nat → Int32 → Int32 → Int32 → Int32 → Int32 → Int32 → q_S → Prop) (ih97 : ∀ (x3 : Int32) (x4 : Int32) (x5 : Int32) (x6 : Int32) (x7 : Int32) (x8 : Int32) (A : q_St) (S : q_S), Rep ad nv md A S → k97 x3 x4 x5 x6 x7 x8 A → m97 (ad 128) x3 x4 x5 x6 x7 x8 S) (x3 : Int32) (x4 : Int32) (x5 : Int32) (x6 : Int32) (x7 : Int32) (x8 : Int32) (A : q_St) (S : q_S), Rep ad nv md A S → aX8_note_b147 nv md Q1 k97 x3 x4 x5 x6 x7 x8 A → wX8_note_b147 Q2 m97 (ad 128) x3 x4 x5 x6 x7 x8 S := by
    intro k97 m97 ih97 x3 x4 x5 x6 x7 x8 A S h ha
    unfold wX8_note_b147
    unfold aX8_note_b147 at ha
    exact ih97 x3 x4 x5 x6 x7 (x8 + (1 : Int32)) _ _ h ha
  have j97 : ∀ (n : Nat), ∀ (x3 : Int32) (x4 : Int32) (x5 : Int32) (x6 : Int32) (x7 : Int32) (x8 : Int32) (A : q_St) (S : q_S), Rep ad nv md A S → alX8_note_b97 nv md Q1 n x3 x4 x5 x6 x7 x8 A → lX8_note_b97 Q2 n (ad 128) x3 x4 x5 x6 x7 x8 S := by
    intro n
    induction n with
    | zero => intro x3 x4 x5 x6 x7 x8 A S h ha; exact absurd ha (fun h => h)
    | succ n ih97 =>
      intro x3 x4 x5 x6 x7 x8 A S h ha
      show wX8_note_b97 Q2 (lX8_note_b97 Q2 n) (ad 128) x3 x4 x5 x6 x7 x8 S
      have ha : aX8_note_b97 nv md Q1 (alX8_note_b97 nv md Q1 n) x3 x4 x5 x6 x7 x8 A := ha
      unfold wX8_note_b97
      unfold aX8_note_b97 at ha
      refine ⟨_, _, cX8 h, rfl, ?_⟩
      refine e_l h isaX8_many ha (fun ha => ?_)
      refine ⟨fun c_14 => ?_, fun c_14 => ?_⟩
      · replace ha := ha.1 c_14
        refine ⟨_, _, cX8 h, rfl, ?_⟩
        refine e_l h isaX8_many ha (fun ha => ?_)
        refine ⟨fun c_15 => ?_, fun c_15 => ?_⟩
        · replace ha := ha.1 c_15
          refine ⟨_, _, cX8 h, rfl, ?_⟩
          refine e_l h isaX8_many ha (fun ha => ?_)
          exact j183 q_fuel x3 x4 x5 x6 x7 (((8 : Int32) * x7) + (A 132 x7.toNatClampNeg)) _ _ h ha
        · replace ha := ha.2 c_15
          exact hq _ _ _ h ha
      · replace ha := ha.2 c_14
        refine ⟨_, _, cX8 h, rfl, ?_⟩
        refine e_l h isaX8_start ha (fun ha => ?_)
        refine ⟨fun c_16 => ?_, fun c_16 => ?_⟩
        · replace ha := ha.1 c_16
          exact j147 (alX8_note_b97 nv md Q1 n) _ ih97 x3 x4 x5 x6 x7 x8 _ _ h ha
        · replace ha := ha.2 c_16
          refine ⟨_, _, cX8 h, rfl, ?_⟩
          refine e_l h isaX8_pitch ha (fun ha => ?_)
          refine ⟨fun c_17 => ?_, fun c_17 => ?_⟩
          · replace ha := ha.1 c_17
            exact j147 (alX8_note_b97 nv md Q1 n) _ ih97 x3 x4 x5 x6 x7 x8 _ _ h ha
          · replace ha := ha.2 c_17
            exact hq _ _ _ h ha
  unfold wX8_note
  unfold aX8_note at ha
  refine ⟨⟨_, cX8 h⟩, ?_⟩
  refine EX8_isVoice h ha (fun v_19 A_18 S h ha => ?_)
  refine ⟨fun c_20 => ?_, fun c_20 => ?_⟩
  · replace ha := ha.1 c_20
    exact hq _ _ _ h ha
  · replace ha := ha.2 c_20
    refine EX8_isBar h ha (fun v_22 A_21 S h ha => ?_)
    refine ⟨fun c_23 => ?_, fun c_23 => ?_⟩
    · replace ha := ha.1 c_23
      refine EX8_in h ha (fun v_25 A_24 S h ha => ?_)
      refine ⟨fun c_26 => ?_, fun c_26 => ?_⟩
      · replace ha := ha.1 c_26
        exact hq _ _ _ h ha
      · replace ha := ha.2 c_26
        refine EX8_in h ha (fun v_28 A_27 S h ha => ?_)
        refine ⟨fun c_29 => ?_, fun c_29 => ?_⟩
        · replace ha := ha.1 c_29
          exact hq _ _ _ h ha
        · replace ha := ha.2 c_29
          refine EX8_in h ha (fun v_31 A_30 S h ha => ?_)
          refine ⟨fun c_32 => ?_, fun c_32 => ?_⟩
          · replace ha := ha.1 c_32
            exact hq _ _ _ h ha
          · replace ha := ha.2 c_32
            refine EX8_in h ha (fun v_34 A_33 S h ha => ?_)
            refine ⟨fun c_35 => ?_, fun c_35 => ?_⟩
            · replace ha := ha.1 c_35
              exact hq _ _ _ h ha
            · replace ha := ha.2 c_35
              refine EX8_floorMod h ha (fun v_37 A_36 S h ha => ?_)
              refine ⟨fun c_38 => ?_, fun c_38 => ?_⟩
              · replace ha := ha.1 c_38
                exact j97 q_fuel x3 x4 x5 x6 (((40 : Int32) * x1) + x2) (0 : Int32) _ _ h ha
              · replace ha := ha.2 c_38
                exact hq _ _ _ h ha
    · replace ha := ha.2 c_23
      exact hq _ _ _ h ha
set_option maxHeartbeats 2000000 in
theorem EX8_drop {ad : Nat → Nat} {nv : Nat} {md : Nat → Bool} {A : q_St} {S : q_S} {x1 : Int32} {x2 : Int32} (h : Rep ad nv md A S) {Q1 : Int32 → q_St → Prop} {Q2 : Int32 → q_S → Prop} (ha : aX8_drop nv md x1 x2 Q1 A) (hq : ∀ (r : Int32) (A : q_St) (S : q_S), Rep ad nv md A S → Q1 r A → Q2 r S) : wX8_drop (ad 128) x1 x2 Q2 S := by
  unfold wX8_drop
  unfold aX8_drop at ha
  refine ⟨⟨_, cX8 h⟩, ?_⟩
  refine EX8_isVoice h ha (fun v_2 A_1 S h ha => ?_)
  refine ⟨fun c_3 => ?_, fun c_3 => ?_⟩
  · replace ha := ha.1 c_3
    exact hq _ _ _ h ha
  · replace ha := ha.2 c_3
    refine EX8_isBar h ha (fun v_5 A_4 S h ha => ?_)
    refine ⟨fun c_6 => ?_, fun c_6 => ?_⟩
    · replace ha := ha.1 c_6
      refine ⟨_, _, cX8 h, rfl, ?_⟩
      refine e_l h isaX8_many ha (fun ha => ?_)
      refine ⟨_, _, cX8 h, rfl, ?_⟩
      refine e_s h isaX8_many ha (fun A_7 S h ha => ?_)
      exact hq _ _ _ h ha
    · replace ha := ha.2 c_6
      exact hq _ _ _ h ha
set_option maxHeartbeats 2000000 in
theorem EX8_mark {ad : Nat → Nat} {nv : Nat} {md : Nat → Bool} {A : q_St} {S : q_S} {x1 : Int32} {x2 : Int32} {x3 : Int32} (h : Rep ad nv md A S) {Q1 : Int32 → q_St → Prop} {Q2 : Int32 → q_S → Prop} (ha : aX8_mark nv md x1 x2 x3 Q1 A) (hq : ∀ (r : Int32) (A : q_St) (S : q_S), Rep ad nv md A S → Q1 r A → Q2 r S) : wX8_mark (ad 128) x1 x2 x3 Q2 S := by
  have j81 : ∀ (x3 : Int32) (x4 : Int32) (y0 : Int32) (A : q_St) (S : q_S), Rep ad nv md A S → aX8_mark_b81 nv md Q1 x3 x4 y0 A → wX8_mark_b81 Q2 (ad 128) x3 x4 y0 S := by
    intro x3 x4 y0 A S h ha
    unfold wX8_mark_b81
    unfold aX8_mark_b81 at ha
    refine ⟨_, _, cX8 h, rfl, ?_⟩
    refine e_sz h isaX8_hasMark ha (fun A_1 S h ha => ?_)
    refine ⟨_, _, cX8 h, rfl, ?_⟩
    refine e_s h isaX8_markValue ha (fun A_2 S h ha => ?_)
    exact hq _ _ _ h ha
  have j52 : ∀ (x1 : Int32) (x2 : Int32) (x3 : Int32) (A : q_St) (S : q_S), Rep ad nv md A S → aX8_mark_b52 nv md Q1 x1 x2 x3 A → wX8_mark_b52 Q2 (ad 128) x1 x2 x3 S := by
    intro x1 x2 x3 A S h ha
    unfold wX8_mark_b52
    unfold aX8_mark_b52 at ha
    refine ⟨_, _, cX8 h, rfl, ?_⟩
    refine e_lz h isaX8_hasMark ha (fun ha => ?_)
    refine ⟨fun c_3 => ?_, fun c_3 => ?_⟩
    · replace ha := ha.1 c_3
      exact j81 x3 (((5 : Int32) * x1) + x2) (-100 : Int32) _ _ h ha
    · replace ha := ha.2 c_3
      refine ⟨_, _, cX8 h, rfl, ?_⟩
      refine e_l h isaX8_markValue ha (fun ha => ?_)
      exact j81 x3 (((5 : Int32) * x1) + x2) (A 138 (((5 : Int32) * x1) + x2).toNatClampNeg) _ _ h ha
  unfold wX8_mark
  unfold aX8_mark at ha
  refine ⟨⟨_, cX8 h⟩, ?_⟩
  refine EX8_isBar h ha (fun v_5 A_4 S h ha => ?_)
  refine ⟨fun c_6 => ?_, fun c_6 => ?_⟩
  · replace ha := ha.1 c_6
    refine EX8_in h ha (fun v_8 A_7 S h ha => ?_)
    refine ⟨fun c_9 => ?_, fun c_9 => ?_⟩
    · replace ha := ha.1 c_9
      exact hq _ _ _ h ha
    · replace ha := ha.2 c_9
      refine ⟨fun c_10 => ?_, fun c_10 => ?_⟩
      · replace ha := ha.1 c_10
        refine EX8_in h ha (fun v_12 A_11 S h ha => ?_)
        refine ⟨fun c_13 => ?_, fun c_13 => ?_⟩
        · replace ha := ha.1 c_13
          exact j52 x1 x2 x3 _ _ h ha
        · replace ha := ha.2 c_13
          exact hq _ _ _ h ha
      · replace ha := ha.2 c_10
        refine EX8_in h ha (fun v_15 A_14 S h ha => ?_)
        refine ⟨fun c_16 => ?_, fun c_16 => ?_⟩
        · replace ha := ha.1 c_16
          exact j52 x1 x2 x3 _ _ h ha
        · replace ha := ha.2 c_16
          exact hq _ _ _ h ha
  · replace ha := ha.2 c_6
    exact hq _ _ _ h ha
set_option maxHeartbeats 2000000 in
theorem EX8_unmark {ad : Nat → Nat} {nv : Nat} {md : Nat → Bool} {A : q_St} {S : q_S} {x1 : Int32} {x2 : Int32} (h : Rep ad nv md A S) {Q1 : Int32 → q_St → Prop} {Q2 : Int32 → q_S → Prop} (ha : aX8_unmark nv md x1 x2 Q1 A) (hq : ∀ (r : Int32) (A : q_St) (S : q_S), Rep ad nv md A S → Q1 r A → Q2 r S) : wX8_unmark (ad 128) x1 x2 Q2 S := by
  have j49 : ∀ (x3 : Int32) (y0 : Int32) (A : q_St) (S : q_S), Rep ad nv md A S → aX8_unmark_b49 nv md Q1 x3 y0 A → wX8_unmark_b49 Q2 (ad 128) x3 y0 S := by
    intro x3 y0 A S h ha
    unfold wX8_unmark_b49
    unfold aX8_unmark_b49 at ha
    refine ⟨_, _, cX8 h, rfl, ?_⟩
    refine e_sz h isaX8_hasMark ha (fun A_1 S h ha => ?_)
    exact hq _ _ _ h ha
  unfold wX8_unmark
  unfold aX8_unmark at ha
  refine ⟨⟨_, cX8 h⟩, ?_⟩
  refine EX8_isBar h ha (fun v_3 A_2 S h ha => ?_)
  refine ⟨fun c_4 => ?_, fun c_4 => ?_⟩
  · replace ha := ha.1 c_4
    refine EX8_in h ha (fun v_6 A_5 S h ha => ?_)
    refine ⟨fun c_7 => ?_, fun c_7 => ?_⟩
    · replace ha := ha.1 c_7
      refine ⟨_, _, cX8 h, rfl, ?_⟩
      refine e_lz h isaX8_hasMark ha (fun ha => ?_)
      refine ⟨fun c_8 => ?_, fun c_8 => ?_⟩
      · replace ha := ha.1 c_8
        exact j49 (((5 : Int32) * x1) + x2) (-100 : Int32) _ _ h ha
      · replace ha := ha.2 c_8
        refine ⟨_, _, cX8 h, rfl, ?_⟩
        refine e_l h isaX8_markValue ha (fun ha => ?_)
        exact j49 (((5 : Int32) * x1) + x2) (A_5 138 (((5 : Int32) * x1) + x2).toNatClampNeg) _ _ h ha
    · replace ha := ha.2 c_7
      exact hq _ _ _ h ha
  · replace ha := ha.2 c_4
    exact hq _ _ _ h ha
set_option maxHeartbeats 2000000 in
theorem EX8_instrument {ad : Nat → Nat} {nv : Nat} {md : Nat → Bool} {A : q_St} {S : q_S} {x1 : Int32} {x2 : Int32} {x3 : Int32} (h : Rep ad nv md A S) {Q1 : Int32 → q_St → Prop} {Q2 : Int32 → q_S → Prop} (ha : aX8_instrument nv md x1 x2 x3 Q1 A) (hq : ∀ (r : Int32) (A : q_St) (S : q_S), Rep ad nv md A S → Q1 r A → Q2 r S) : wX8_instrument (ad 128) x1 x2 x3 Q2 S := by
  unfold wX8_instrument
  unfold aX8_instrument at ha
  refine ⟨⟨_, cX8 h⟩, ?_⟩
  refine EX8_isVoice h ha (fun v_2 A_1 S h ha => ?_)
  refine ⟨fun c_3 => ?_, fun c_3 => ?_⟩
  · replace ha := ha.1 c_3
    refine EX8_in h ha (fun v_5 A_4 S h ha => ?_)
    refine ⟨fun c_6 => ?_, fun c_6 => ?_⟩
    · replace ha := ha.1 c_6
      exact hq _ _ _ h ha
    · replace ha := ha.2 c_6
      refine EX8_in h ha (fun v_8 A_7 S h ha => ?_)
      refine ⟨fun c_9 => ?_, fun c_9 => ?_⟩
      · replace ha := ha.1 c_9
        refine ⟨_, _, cX8 h, rfl, ?_⟩
        refine e_s h isaX8_fifths ha (fun A_10 S h ha => ?_)
        refine ⟨_, _, cX8 h, rfl, ?_⟩
        refine e_s h isaX8_octaves ha (fun A_11 S h ha => ?_)
        exact hq _ _ _ h ha
      · replace ha := ha.2 c_9
        exact hq _ _ _ h ha
  · replace ha := ha.2 c_3
    exact hq _ _ _ h ha
set_option maxHeartbeats 2000000 in
theorem EX8_cueing {ad : Nat → Nat} {nv : Nat} {md : Nat → Bool} {A : q_St} {S : q_S} {x1 : Int32} (h : Rep ad nv md A S) {Q1 : Int32 → q_St → Prop} {Q2 : Int32 → q_S → Prop} (ha : aX8_cueing nv md x1 Q1 A) (hq : ∀ (r : Int32) (A : q_St) (S : q_S), Rep ad nv md A S → Q1 r A → Q2 r S) : wX8_cueing (ad 128) x1 Q2 S := by
  unfold wX8_cueing
  unfold aX8_cueing at ha
  refine ⟨⟨_, cX8 h⟩, ?_⟩
  refine EX8_in h ha (fun v_2 A_1 S h ha => ?_)
  refine ⟨fun c_3 => ?_, fun c_3 => ?_⟩
  · replace ha := ha.1 c_3
    refine ⟨_, _, cX8 h, rfl, ?_⟩
    refine e_pX8_11 h ha (fun A_4 S h ha => ?_)
    exact hq _ _ _ h ha
  · replace ha := ha.2 c_3
    exact hq _ _ _ h ha
set_option maxHeartbeats 2000000 in
theorem EX8_isEmpty {ad : Nat → Nat} {nv : Nat} {md : Nat → Bool} {A : q_St} {S : q_S} {x1 : Int32} {x2 : Int32} (h : Rep ad nv md A S) {Q1 : Int32 → q_St → Prop} {Q2 : Int32 → q_S → Prop} (ha : aX8_isEmpty nv md x1 x2 Q1 A) (hq : ∀ (r : Int32) (A : q_St) (S : q_S), Rep ad nv md A S → Q1 r A → Q2 r S) : wX8_isEmpty (ad 128) x1 x2 Q2 S := by
  unfold wX8_isEmpty
  unfold aX8_isEmpty at ha
  refine ⟨⟨_, cX8 h⟩, ?_⟩
  refine ⟨_, _, cX8 h, rfl, ?_⟩
  refine e_l h isaX8_many ha (fun ha => ?_)
  refine ⟨fun c_1 => ?_, fun c_1 => ?_⟩
  · replace ha := ha.1 c_1
    exact ⟨ha.1, hq _ _ _ h ha.2⟩
  · replace ha := ha.2 c_1
    exact ⟨ha.1, hq _ _ _ h ha.2⟩
set_option maxHeartbeats 2000000 in
theorem EX8_isNeeded {ad : Nat → Nat} {nv : Nat} {md : Nat → Bool} {A : q_St} {S : q_S} {x1 : Int32} (h : Rep ad nv md A S) {Q1 : Int32 → q_St → Prop} {Q2 : Int32 → q_S → Prop} (ha : aX8_isNeeded nv md x1 Q1 A) (hq : ∀ (r : Int32) (A : q_St) (S : q_S), Rep ad nv md A S → Q1 r A → Q2 r S) : wX8_isNeeded (ad 128) x1 Q2 S := by
  have j50 : ∀ (A : q_St) (S : q_S), Rep ad nv md A S → aX8_isNeeded_b50 nv md Q1 A → wX8_isNeeded_b50 Q2 S := by
    intro A S h ha
    unfold wX8_isNeeded_b50
    unfold aX8_isNeeded_b50 at ha
    exact ⟨ha.1, hq _ _ _ h ha.2⟩
  unfold wX8_isNeeded
  unfold aX8_isNeeded at ha
  refine ⟨⟨_, cX8 h⟩, ?_⟩
  refine ⟨_, _, cX8 h, rfl, ?_⟩
  refine e_lz h isaX8_hasMark ha (fun ha => ?_)
  refine ⟨fun c_1 => ?_, fun c_1 => ?_⟩
  · replace ha := ha.1 c_1
    exact j50 _ _ h ha
  · replace ha := ha.2 c_1
    refine ⟨_, _, cX8 h, rfl, ?_⟩
    refine e_lz h isaX8_hasMark ha (fun ha => ?_)
    refine ⟨fun c_2 => ?_, fun c_2 => ?_⟩
    · replace ha := ha.1 c_2
      exact j50 _ _ h ha
    · replace ha := ha.2 c_2
      refine ⟨_, _, cX8 h, rfl, ?_⟩
      refine e_lz h isaX8_hasMark ha (fun ha => ?_)
      refine ⟨fun c_3 => ?_, fun c_3 => ?_⟩
      · replace ha := ha.1 c_3
        exact j50 _ _ h ha
      · replace ha := ha.2 c_3
        refine ⟨_, _, cX8 h, rfl, ?_⟩
        refine e_lz h isaX8_hasMark ha (fun ha => ?_)
        refine ⟨fun c_4 => ?_, fun c_4 => ?_⟩
        · replace ha := ha.1 c_4
          exact ⟨ha.1, hq _ _ _ h ha.2⟩
        · replace ha := ha.2 c_4
          exact j50 _ _ h ha
set_option maxHeartbeats 2000000 in
theorem EX8_keyAt {ad : Nat → Nat} {nv : Nat} {md : Nat → Bool} {A : q_St} {S : q_S} {x1 : Int32} (h : Rep ad nv md A S) {Q1 : Int32 → q_St → Prop} {Q2 : Int32 → q_S → Prop} (ha : aX8_keyAt nv md x1 Q1 A) (hq : ∀ (r : Int32) (A : q_St) (S : q_S), Rep ad nv md A S → Q1 r A → Q2 r S) : wX8_keyAt (ad 128) x1 Q2 S := by
  have j32 : ∀ (k4 : Int32 → Int32 → Int32 → q_St → Prop) (m4 : Nat → Int32 → Int32 → Int32 → q_S → Prop) (ih4 : ∀ (x1 : Int32) (x2 : Int32) (x3 : Int32) (A : q_St) (S : q_S), Rep ad nv md A S → k4 x1 x2 x3 A → m4 (ad 128) x1 x2 x3 S) (x1 : Int32) (x3 : Int32) (y0 : Int32) (A : q_St) (S : q_S), Rep ad nv md A S → aX8_keyAt_b32 nv md Q1 k4 x1 x3 y0 A → wX8_keyAt_b32 Q2 m4 (ad 128) x1 x3 y0 S := by
    intro k4 m4 ih4 x1 x3 y0 A S h ha
    unfold wX8_keyAt_b32
    unfold aX8_keyAt_b32 at ha
    exact ih4 x1 y0 (x3 + (1 : Int32)) _ _ h ha
  have j4 : ∀ (n : Nat), ∀ (x1 : Int32) (x2 : Int32) (x3 : Int32) (A : q_St) (S : q_S), Rep ad nv md A S → alX8_keyAt_b4 nv md Q1 n x1 x2 x3 A → lX8_keyAt_b4 Q2 n (ad 128) x1 x2 x3 S := by
    intro n
    induction n with
    | zero => intro x1 x2 x3 A S h ha; exact absurd ha (fun h => h)
    | succ n ih4 =>
      intro x1 x2 x3 A S h ha
      show wX8_keyAt_b4 Q2 (lX8_keyAt_b4 Q2 n) (ad 128) x1 x2 x3 S
      have ha : aX8_keyAt_b4 nv md Q1 (alX8_keyAt_b4 nv md Q1 n) x1 x2 x3 A := ha
      unfold wX8_keyAt_b4
      unfold aX8_keyAt_b4 at ha
      refine ⟨fun c_1 => ?_, fun c_1 => ?_⟩
      · replace ha := ha.1 c_1
        exact hq _ _ _ h ha
      · replace ha := ha.2 c_1
        refine ⟨_, _, cX8 h, rfl, ?_⟩
        refine e_lz h isaX8_hasMark ha (fun ha => ?_)
        refine ⟨fun c_2 => ?_, fun c_2 => ?_⟩
        · replace ha := ha.1 c_2
          exact j32 (alX8_keyAt_b4 nv md Q1 n) _ ih4 x1 x3 x2 _ _ h ha
        · replace ha := ha.2 c_2
          refine ⟨_, _, cX8 h, rfl, ?_⟩
          refine e_l h isaX8_markValue ha (fun ha => ?_)
          exact j32 (alX8_keyAt_b4 nv md Q1 n) _ ih4 x1 x3 (A 138 ((5 : Int32) * x3).toNatClampNeg) _ _ h ha
  unfold wX8_keyAt
  unfold aX8_keyAt at ha
  refine ⟨⟨_, cX8 h⟩, ?_⟩
  exact j4 q_fuel x1 (0 : Int32) (0 : Int32) _ _ h ha
set_option maxHeartbeats 2000000 in
theorem EX8_turnOf {ad : Nat → Nat} {nv : Nat} {md : Nat → Bool} {A : q_St} {S : q_S} {x1 : Int32} {x2 : Int32} (h : Rep ad nv md A S) {Q1 : Int32 → q_St → Prop} {Q2 : Int32 → q_S → Prop} (ha : aX8_turnOf nv md x1 x2 Q1 A) (hq : ∀ (r : Int32) (A : q_St) (S : q_S), Rep ad nv md A S → Q1 r A → Q2 r S) : wX8_turnOf (ad 128) x1 x2 Q2 S := by
  unfold wX8_turnOf
  unfold aX8_turnOf at ha
  refine ⟨⟨_, cX8 h⟩, ?_⟩
  refine EX8_keyAt h ha (fun v_2 A_1 S h ha => ?_)
  refine ⟨_, _, cX8 h, rfl, ?_⟩
  refine e_l h isaX8_fifths ha (fun ha => ?_)
  refine ⟨fun c_3 => ?_, fun c_3 => ?_⟩
  · replace ha := ha.1 c_3
    refine ⟨fun c_4 => ?_, fun c_4 => ?_⟩
    · replace ha := ha.1 c_4
      exact hq _ _ _ h ha
    · replace ha := ha.2 c_4
      exact hq _ _ _ h ha
  · replace ha := ha.2 c_3
    exact hq _ _ _ h ha
set_option maxHeartbeats 2000000 in
theorem EX8_writtenKey {ad : Nat → Nat} {nv : Nat} {md : Nat → Bool} {A : q_St} {S : q_S} {x1 : Int32} {x2 : Int32} (h : Rep ad nv md A S) {Q1 : Int32 → q_St → Prop} {Q2 : Int32 → q_S → Prop} (ha : aX8_writtenKey nv md x1 x2 Q1 A) (hq : ∀ (r : Int32) (A : q_St) (S : q_S), Rep ad nv md A S → Q1 r A → Q2 r S) : wX8_writtenKey (ad 128) x1 x2 Q2 S := by
  unfold wX8_writtenKey
  unfold aX8_writtenKey at ha
  refine ⟨⟨_, cX8 h⟩, ?_⟩
  refine EX8_keyAt h ha (fun v_2 A_1 S h ha => ?_)
  refine ⟨_, _, cX8 h, rfl, ?_⟩
  refine e_l h isaX8_fifths ha (fun ha => ?_)
  refine EX8_turnOf h ha (fun v_4 A_3 S h ha => ?_)
  exact hq _ _ _ h ha
set_option maxHeartbeats 2000000 in
theorem EX8_cueOf {ad : Nat → Nat} {nv : Nat} {md : Nat → Bool} {A : q_St} {S : q_S} {x1 : Int32} {x2 : Int32} (h : Rep ad nv md A S) {Q1 : Int32 → q_St → Prop} {Q2 : Int32 → q_S → Prop} (ha : aX8_cueOf nv md x1 x2 Q1 A) (hq : ∀ (r : Int32) (A : q_St) (S : q_S), Rep ad nv md A S → Q1 r A → Q2 r S) : wX8_cueOf (ad 128) x1 x2 Q2 S := by
  have j140 : ∀ (k69 : Int32 → Int32 → Int32 → Int32 → Int32 → q_St → Prop) (m69 : Nat → Int32 → Int32 → Int32 → Int32 → Int32 → q_S → Prop) (ih69 : ∀ (x1 : Int32) (x2 : Int32) (x3 : Int32) (x4 : Int32) (x5 : Int32) (A : q_St) (S : q_S), Rep ad nv md A S → k69 x1 x2 x3 x4 x5 A → m69 (ad 128) x1 x2 x3 x4 x5 S) (x1 : Int32) (x2 : Int32) (x3 : Int32) (x4 : Int32) (x5 : Int32) (A : q_St) (S : q_S), Rep ad nv md A S → aX8_cueOf_b140 nv md Q1 k69 x1 x2 x3 x4 x5 A → wX8_cueOf_b140 Q2 m69 (ad 128) x1 x2 x3 x4 x5 S := by
    intro k69 m69 ih69 x1 x2 x3 x4 x5 A S h ha
    unfold wX8_cueOf_b140
    unfold aX8_cueOf_b140 at ha
    exact ih69 x1 x2 x3 x4 (x5 + (1 : Int32)) _ _ h ha
  have j136 : ∀ (k69 : Int32 → Int32 → Int32 → Int32 → Int32 → q_St → Prop) (m69 : Nat → Int32 → Int32 → Int32 → Int32 → Int32 → q_S → Prop) (ih69 : ∀ (x1 : Int32) (x2 : Int32) (x3 : Int32) (x4 : Int32) (x5 : Int32) (A : q_St) (S : q_S), Rep ad nv md A S → k69 x1 x2 x3 x4 x5 A → m69 (ad 128) x1 x2 x3 x4 x5 S) (x1 : Int32) (x2 : Int32) (x3 : Int32) (x5 : Int32) (A : q_St) (S : q_S), Rep ad nv md A S → aX8_cueOf_b136 nv md Q1 k69 x1 x2 x3 x5 A → wX8_cueOf_b136 Q2 m69 (ad 128) x1 x2 x3 x5 S := by
    intro k69 m69 ih69 x1 x2 x3 x5 A S h ha
    unfold wX8_cueOf_b136
    unfold aX8_cueOf_b136 at ha
    exact j140 k69 _ ih69 x1 x2 x3 x5 x5 _ _ h ha
  have j69 : ∀ (n : Nat), ∀ (x1 : Int32) (x2 : Int32) (x3 : Int32) (x4 : Int32) (x5 : Int32) (A : q_St) (S : q_S), Rep ad nv md A S → alX8_cueOf_b69 nv md Q1 n x1 x2 x3 x4 x5 A → lX8_cueOf_b69 Q2 n (ad 128) x1 x2 x3 x4 x5 S := by
    intro n
    induction n with
    | zero => intro x1 x2 x3 x4 x5 A S h ha; exact absurd ha (fun h => h)
    | succ n ih69 =>
      intro x1 x2 x3 x4 x5 A S h ha
      show wX8_cueOf_b69 Q2 (lX8_cueOf_b69 Q2 n) (ad 128) x1 x2 x3 x4 x5 S
      have ha : aX8_cueOf_b69 nv md Q1 (alX8_cueOf_b69 nv md Q1 n) x1 x2 x3 x4 x5 A := ha
      unfold wX8_cueOf_b69
      unfold aX8_cueOf_b69 at ha
      refine ⟨_, _, cX8 h, rfl, ?_⟩
      refine ⟨fun c_1 => ?_, fun c_1 => ?_⟩
      · replace ha := ha.1 c_1
        exact hq _ _ _ h ha
      · replace ha := ha.2 c_1
        refine ⟨_, _, cX8 h, rfl, ?_⟩
        refine ⟨fun c_2 => ?_, fun c_2 => ?_⟩
        · replace ha := ha.1 c_2
          exact hq _ _ _ h ha
        · replace ha := ha.2 c_2
          refine ⟨fun c_3 => ?_, fun c_3 => ?_⟩
          · replace ha := ha.1 c_3
            exact j140 (alX8_cueOf_b69 nv md Q1 n) _ ih69 x1 x2 x3 x4 x5 _ _ h ha
          · replace ha := ha.2 c_3
            refine EX8_isEmpty h ha (fun v_5 A_4 S h ha => ?_)
            refine ⟨fun c_6 => ?_, fun c_6 => ?_⟩
            · replace ha := ha.1 c_6
              exact j140 (alX8_cueOf_b69 nv md Q1 n) _ ih69 x1 x2 x3 x4 x5 _ _ h ha
            · replace ha := ha.2 c_6
              refine ⟨fun c_7 => ?_, fun c_7 => ?_⟩
              · replace ha := ha.1 c_7
                exact j136 (alX8_cueOf_b69 nv md Q1 n) _ ih69 x1 x2 x3 x5 _ _ h ha
              · replace ha := ha.2 c_7
                refine ⟨_, _, cX8 h, rfl, ?_⟩
                refine e_l h isaX8_many ha (fun ha => ?_)
                refine ⟨_, _, cX8 h, rfl, ?_⟩
                refine e_l h isaX8_many ha (fun ha => ?_)
                refine ⟨fun c_8 => ?_, fun c_8 => ?_⟩
                · replace ha := ha.1 c_8
                  exact j140 (alX8_cueOf_b69 nv md Q1 n) _ ih69 x1 x2 x3 x4 x5 _ _ h ha
                · replace ha := ha.2 c_8
                  exact j136 (alX8_cueOf_b69 nv md Q1 n) _ ih69 x1 x2 x3 x5 _ _ h ha
  have j62 : ∀ (x1 : Int32) (x2 : Int32) (x3 : Int32) (A : q_St) (S : q_S), Rep ad nv md A S → aX8_cueOf_b62 nv md Q1 x1 x2 x3 A → wX8_cueOf_b62 Q2 (ad 128) x1 x2 x3 S := by
    intro x1 x2 x3 A S h ha
    unfold wX8_cueOf_b62
    unfold aX8_cueOf_b62 at ha
    exact j69 q_fuel x1 x2 x3 (-100 : Int32) (0 : Int32) _ _ h ha
  have j38 : ∀ (n : Nat), ∀ (x1 : Int32) (x2 : Int32) (x3 : Int32) (x4 : Int32) (A : q_St) (S : q_S), Rep ad nv md A S → alX8_cueOf_b38 nv md Q1 n x1 x2 x3 x4 A → lX8_cueOf_b38 Q2 n (ad 128) x1 x2 x3 x4 S := by
    intro n
    induction n with
    | zero => intro x1 x2 x3 x4 A S h ha; exact absurd ha (fun h => h)
    | succ n ih38 =>
      intro x1 x2 x3 x4 A S h ha
      show wX8_cueOf_b38 Q2 (lX8_cueOf_b38 Q2 n) (ad 128) x1 x2 x3 x4 S
      have ha : aX8_cueOf_b38 nv md Q1 (alX8_cueOf_b38 nv md Q1 n) x1 x2 x3 x4 A := ha
      unfold wX8_cueOf_b38
      unfold aX8_cueOf_b38 at ha
      refine ⟨fun c_9 => ?_, fun c_9 => ?_⟩
      · replace ha := ha.1 c_9
        exact j62 x1 x2 x3 _ _ h ha
      · replace ha := ha.2 c_9
        refine EX8_isEmpty h ha (fun v_11 A_10 S h ha => ?_)
        refine ⟨fun c_12 => ?_, fun c_12 => ?_⟩
        · replace ha := ha.1 c_12
          exact j62 x1 x2 x3 _ _ h ha
        · replace ha := ha.2 c_12
          exact ih38 x1 x2 (x3 + (1 : Int32)) (x4 + (-1 : Int32)) _ _ h ha
  unfold wX8_cueOf
  unfold aX8_cueOf at ha
  refine ⟨⟨_, cX8 h⟩, ?_⟩
  refine EX8_isEmpty h ha (fun v_14 A_13 S h ha => ?_)
  refine ⟨fun c_15 => ?_, fun c_15 => ?_⟩
  · replace ha := ha.1 c_15
    exact hq _ _ _ h ha
  · replace ha := ha.2 c_15
    refine ⟨_, _, cX8 h, rfl, ?_⟩
    refine ⟨fun c_16 => ?_, fun c_16 => ?_⟩
    · replace ha := ha.1 c_16
      exact hq _ _ _ h ha
    · replace ha := ha.2 c_16
      refine EX8_isEmpty h ha (fun v_18 A_17 S h ha => ?_)
      refine ⟨fun c_19 => ?_, fun c_19 => ?_⟩
      · replace ha := ha.1 c_19
        exact j38 q_fuel x1 x2 (0 : Int32) x2 _ _ h ha
      · replace ha := ha.2 c_19
        exact hq _ _ _ h ha
set_option maxHeartbeats 2000000 in
theorem EX8_unlikeStarts {ad : Nat → Nat} {nv : Nat} {md : Nat → Bool} {A : q_St} {S : q_S} {x1 : Int32} {x2 : Int32} (h : Rep ad nv md A S) {Q1 : Int32 → q_St → Prop} {Q2 : Int32 → q_S → Prop} (ha : aX8_unlikeStarts nv md x1 x2 Q1 A) (hq : ∀ (r : Int32) (A : q_St) (S : q_S), Rep ad nv md A S → Q1 r A → Q2 r S) : wX8_unlikeStarts (ad 128) x1 x2 Q2 S := by
  have j65 : ∀ (k13 : Int32 → Int32 → Int32 → q_St → Prop) (m13 : Nat → Int32 → Int32 → Int32 → q_S → Prop) (ih13 : ∀ (x3 : Int32) (x4 : Int32) (x5 : Int32) (A : q_St) (S : q_S), Rep ad nv md A S → k13 x3 x4 x5 A → m13 (ad 128) x3 x4 x5 S) (x3 : Int32) (x5 : Int32) (y0 : Int32) (y1 : Int32) (A : q_St) (S : q_S), Rep ad nv md A S → aX8_unlikeStarts_b65 nv md Q1 k13 x3 x5 y0 y1 A → wX8_unlikeStarts_b65 Q2 m13 (ad 128) x3 x5 y0 y1 S := by
    intro k13 m13 ih13 x3 x5 y0 y1 A S h ha
    unfold wX8_unlikeStarts_b65
    unfold aX8_unlikeStarts_b65 at ha
    exact ih13 x3 (y0 + y1) (x5 + (1 : Int32)) _ _ h ha
  have j60 : ∀ (k13 : Int32 → Int32 → Int32 → q_St → Prop) (m13 : Nat → Int32 → Int32 → Int32 → q_S → Prop) (ih13 : ∀ (x3 : Int32) (x4 : Int32) (x5 : Int32) (A : q_St) (S : q_S), Rep ad nv md A S → k13 x3 x4 x5 A → m13 (ad 128) x3 x4 x5 S) (x3 : Int32) (x5 : Int32) (y0 : Int32) (A : q_St) (S : q_S), Rep ad nv md A S → aX8_unlikeStarts_b60 nv md Q1 k13 x3 x5 y0 A → wX8_unlikeStarts_b60 Q2 m13 (ad 128) x3 x5 y0 S := by
    intro k13 m13 ih13 x3 x5 y0 A S h ha
    unfold wX8_unlikeStarts_b60
    unfold aX8_unlikeStarts_b60 at ha
    exact j65 k13 _ ih13 x3 x5 y0 (1 : Int32) _ _ h ha
  have j13 : ∀ (n : Nat), ∀ (x3 : Int32) (x4 : Int32) (x5 : Int32) (A : q_St) (S : q_S), Rep ad nv md A S → alX8_unlikeStarts_b13 nv md Q1 n x3 x4 x5 A → lX8_unlikeStarts_b13 Q2 n (ad 128) x3 x4 x5 S := by
    intro n
    induction n with
    | zero => intro x3 x4 x5 A S h ha; exact absurd ha (fun h => h)
    | succ n ih13 =>
      intro x3 x4 x5 A S h ha
      show wX8_unlikeStarts_b13 Q2 (lX8_unlikeStarts_b13 Q2 n) (ad 128) x3 x4 x5 S
      have ha : aX8_unlikeStarts_b13 nv md Q1 (alX8_unlikeStarts_b13 nv md Q1 n) x3 x4 x5 A := ha
      unfold wX8_unlikeStarts_b13
      unfold aX8_unlikeStarts_b13 at ha
      refine ⟨_, _, cX8 h, rfl, ?_⟩
      refine e_l h isaX8_many ha (fun ha => ?_)
      refine ⟨fun c_1 => ?_, fun c_1 => ?_⟩
      · replace ha := ha.1 c_1
        exact hq _ _ _ h ha
      · replace ha := ha.2 c_1
        refine ⟨fun c_2 => ?_, fun c_2 => ?_⟩
        · replace ha := ha.1 c_2
          exact j60 (alX8_unlikeStarts_b13 nv md Q1 n) _ ih13 x3 x5 x4 _ _ h ha
        · replace ha := ha.2 c_2
          refine ⟨_, _, cX8 h, rfl, ?_⟩
          refine e_l h isaX8_start ha (fun ha => ?_)
          refine ⟨_, _, cX8 h, rfl, ?_⟩
          refine e_l h isaX8_start ha (fun ha => ?_)
          refine ⟨fun c_3 => ?_, fun c_3 => ?_⟩
          · replace ha := ha.1 c_3
            exact j65 (alX8_unlikeStarts_b13 nv md Q1 n) _ ih13 x3 x5 x4 (0 : Int32) _ _ h ha
          · replace ha := ha.2 c_3
            exact j60 (alX8_unlikeStarts_b13 nv md Q1 n) _ ih13 x3 x5 x4 _ _ h ha
  unfold wX8_unlikeStarts
  unfold aX8_unlikeStarts at ha
  refine ⟨⟨_, cX8 h⟩, ?_⟩
  exact j13 q_fuel (((40 : Int32) * x1) + x2) (0 : Int32) (0 : Int32) _ _ h ha
set_option maxHeartbeats 2000000 in
theorem EX8_addRow {ad : Nat → Nat} {nv : Nat} {md : Nat → Bool} {A : q_St} {S : q_S} {x1 : Int32} {x2 : Int32} {x3 : Int32} {x4 : Int32} {x5 : Int32} (h : Rep ad nv md A S) {Q1 : q_St → Prop} {Q2 : q_S → Prop} (ha : aX8_addRow nv md x1 x2 x3 x4 x5 Q1 A) (hq : ∀ (A : q_St) (S : q_S), Rep ad nv md A S → Q1 A → Q2 S) : wX8_addRow (ad 128) x1 x2 x3 x4 x5 Q2 S := by
  have j350 : ∀ (k185 : Int32 → Int32 → Int32 → Int32 → Int32 → q_St → Prop) (m185 : Nat → Int32 → Int32 → Int32 → Int32 → Int32 → q_S → Prop) (ih185 : ∀ (x1 : Int32) (x3 : Int32) (x5 : Int32) (x6 : Int32) (x8 : Int32) (A : q_St) (S : q_S), Rep ad nv md A S → k185 x1 x3 x5 x6 x8 A → m185 (ad 128) x1 x3 x5 x6 x8 S) (n : Nat), ∀ (x1 : Int32) (x3 : Int32) (x5 : Int32) (x6 : Int32) (x8 : Int32) (x10 : Int32) (x12 : Int32) (A : q_St) (S : q_S), Rep ad nv md A S → alX8_addRow_b350 nv md Q1 k185 n x1 x3 x5 x6 x8 x10 x12 A → lX8_addRow_b350 Q2 m185 n (ad 128) x1 x3 x5 x6 x8 x10 x12 S := by
    intro k185 m185 ih185
    intro n
    induction n with
    | zero => intro x1 x3 x5 x6 x8 x10 x12 A S h ha; exact absurd ha (fun h => h)
    | succ n ih350 =>
      intro x1 x3 x5 x6 x8 x10 x12 A S h ha
      show wX8_addRow_b350 Q2 m185 (lX8_addRow_b350 Q2 m185 n) (ad 128) x1 x3 x5 x6 x8 x10 x12 S
      have ha : aX8_addRow_b350 nv md Q1 k185 (alX8_addRow_b350 nv md Q1 k185 n) x1 x3 x5 x6 x8 x10 x12 A := ha
      unfold wX8_addRow_b350
      unfold aX8_addRow_b350 at ha
      refine ⟨fun c_1 => ?_, fun c_1 => ?_⟩
      · replace ha := ha.1 c_1
        refine ⟨_, _, cX8 h, rfl, ?_⟩
        refine e_s h isaX8_notes ha (fun A_2 S h ha => ?_)
        exact ih185 x1 x3 x5 x6 (x8 + (1 : Int32)) _ _ h ha
      · replace ha := ha.2 c_1
        exact ih350 x1 x3 x5 x6 x8 x10 (x12 + (12 : Int32)) _ _ h ha
  have j337 : ∀ (k185 : Int32 → Int32 → Int32 → Int32 → Int32 → q_St → Prop) (m185 : Nat → Int32 → Int32 → Int32 → Int32 → Int32 → q_S → Prop) (ih185 : ∀ (x1 : Int32) (x3 : Int32) (x5 : Int32) (x6 : Int32) (x8 : Int32) (A : q_St) (S : q_S), Rep ad nv md A S → k185 x1 x3 x5 x6 x8 A → m185 (ad 128) x1 x3 x5 x6 x8 S) (n : Nat), ∀ (x1 : Int32) (x3 : Int32) (x5 : Int32) (x6 : Int32) (x8 : Int32) (x10 : Int32) (x12 : Int32) (A : q_St) (S : q_S), Rep ad nv md A S → alX8_addRow_b337 nv md Q1 k185 n x1 x3 x5 x6 x8 x10 x12 A → lX8_addRow_b337 Q2 m185 n (ad 128) x1 x3 x5 x6 x8 x10 x12 S := by
    intro k185 m185 ih185
    intro n
    induction n with
    | zero => intro x1 x3 x5 x6 x8 x10 x12 A S h ha; exact absurd ha (fun h => h)
    | succ n ih337 =>
      intro x1 x3 x5 x6 x8 x10 x12 A S h ha
      show wX8_addRow_b337 Q2 m185 (lX8_addRow_b337 Q2 m185 n) (ad 128) x1 x3 x5 x6 x8 x10 x12 S
      have ha : aX8_addRow_b337 nv md Q1 k185 (alX8_addRow_b337 nv md Q1 k185 n) x1 x3 x5 x6 x8 x10 x12 A := ha
      unfold wX8_addRow_b337
      unfold aX8_addRow_b337 at ha
      refine ⟨fun c_3 => ?_, fun c_3 => ?_⟩
      · replace ha := ha.1 c_3
        exact j350 k185 _ ih185 q_fuel x1 x3 x5 x6 x8 x10 x12 _ _ h ha
      · replace ha := ha.2 c_3
        exact ih337 x1 x3 x5 x6 x8 x10 (x12 + (-12 : Int32)) _ _ h ha
  have j302 : ∀ (k185 : Int32 → Int32 → Int32 → Int32 → Int32 → q_St → Prop) (m185 : Nat → Int32 → Int32 → Int32 → Int32 → Int32 → q_S → Prop) (ih185 : ∀ (x1 : Int32) (x3 : Int32) (x5 : Int32) (x6 : Int32) (x8 : Int32) (A : q_St) (S : q_S), Rep ad nv md A S → k185 x1 x3 x5 x6 x8 A → m185 (ad 128) x1 x3 x5 x6 x8 S) (x1 : Int32) (x3 : Int32) (x5 : Int32) (x6 : Int32) (x8 : Int32) (x9 : Int32) (x10 : Int32) (y1 : Int32) (y2 : Int32) (y3 : Int32) (A : q_St) (S : q_S), Rep ad nv md A S → aX8_addRow_b302 nv md Q1 k185 x1 x3 x5 x6 x8 x9 x10 y1 y2 y3 A → wX8_addRow_b302 Q2 m185 (ad 128) x1 x3 x5 x6 x8 x9 x10 (ad 151) y1 y2 y3 S := by
    intro k185 m185 ih185 x1 x3 x5 x6 x8 x9 x10 y1 y2 y3 A S h ha
    unfold wX8_addRow_b302
    unfold aX8_addRow_b302 at ha
    refine ⟨_, _, cX8 h, rfl, ?_⟩
    refine e_l h isaX8_octaves ha (fun ha => ?_)
    refine e_s h isaX8_notes ha (fun A_4 S h ha => ?_)
    refine ⟨_, _, cX8 h, rfl, ?_⟩
    refine e_l h isaX8_spelling ha (fun ha => ?_)
    refine ⟨_, _, cX8 h, rfl, ?_⟩
    refine e_l h isaX8_fifths ha (fun ha => ?_)
    refine EX8_turnOf h ha (fun v_6 A_5 S h ha => ?_)
    exact j337 k185 _ ih185 q_fuel x1 x3 x5 x6 x8 x10 (((A_4 136 x9.toNatClampNeg) + (A_4 139 x1.toNatClampNeg)) + v_6) _ _ h ha
  have j185 : ∀ (n : Nat), ∀ (x1 : Int32) (x3 : Int32) (x5 : Int32) (x6 : Int32) (x8 : Int32) (A : q_St) (S : q_S), Rep ad nv md A S → alX8_addRow_b185 nv md Q1 n x1 x3 x5 x6 x8 A → lX8_addRow_b185 Q2 n (ad 128) x1 x3 x5 x6 x8 S := by
    intro n
    induction n with
    | zero => intro x1 x3 x5 x6 x8 A S h ha; exact absurd ha (fun h => h)
    | succ n ih185 =>
      intro x1 x3 x5 x6 x8 A S h ha
      show wX8_addRow_b185 Q2 (lX8_addRow_b185 Q2 n) (ad 128) x1 x3 x5 x6 x8 S
      have ha : aX8_addRow_b185 nv md Q1 (alX8_addRow_b185 nv md Q1 n) x1 x3 x5 x6 x8 A := ha
      unfold wX8_addRow_b185
      unfold aX8_addRow_b185 at ha
      refine ⟨_, _, cX8 h, rfl, ?_⟩
      refine e_l h isaX8_noteMany ha (fun ha => ?_)
      refine ⟨fun c_7 => ?_, fun c_7 => ?_⟩
      · replace ha := ha.1 c_7
        exact hq _ _ h ha
      · replace ha := ha.2 c_7
        refine ⟨_, _, cX8 h, rfl, ?_⟩
        refine e_l h isaX8_fifths ha (fun ha => ?_)
        refine EX8_floorMod h ha (fun v_9 A_8 S h ha => ?_)
        refine ⟨_, _, cX8 h, rfl, ?_⟩
        refine ⟨_, _, cX8 h, rfl, ?_⟩
        refine e_l h isaX8_start ha (fun ha => ?_)
        refine e_s h isaX8_notes ha (fun A_10 S h ha => ?_)
        refine ⟨_, _, cX8 h, rfl, ?_⟩
        refine ⟨_, _, cX8 h, rfl, ?_⟩
        refine e_l h isaX8_length ha (fun ha => ?_)
        refine e_s h isaX8_notes ha (fun A_11 S h ha => ?_)
        refine ⟨_, _, cX8 h, rfl, ?_⟩
        refine ⟨_, _, cX8 h, rfl, ?_⟩
        refine e_l h isaX8_pitch ha (fun ha => ?_)
        refine ⟨fun c_12 => ?_, fun c_12 => ?_⟩
        · replace ha := ha.1 c_12
          exact j302 (alX8_addRow_b185 nv md Q1 n) _ ih185 x1 x3 x5 x6 x8 (((8 : Int32) * (((40 : Int32) * x5) + x3)) + x8) (((32 : Int32) * x6) + ((4 : Int32) * x8)) ((((32 : Int32) * x6) + ((4 : Int32) * x8)) + (2 : Int32)) (A_11 135 (((8 : Int32) * (((40 : Int32) * x5) + x3)) + x8).toNatClampNeg) v_9 _ _ h ha
        · replace ha := ha.2 c_12
          exact j302 (alX8_addRow_b185 nv md Q1 n) _ ih185 x1 x3 x5 x6 x8 (((8 : Int32) * (((40 : Int32) * x5) + x3)) + x8) (((32 : Int32) * x6) + ((4 : Int32) * x8)) ((((32 : Int32) * x6) + ((4 : Int32) * x8)) + (2 : Int32)) (A_11 135 (((8 : Int32) * (((40 : Int32) * x5) + x3)) + x8).toNatClampNeg) (v_9 - (12 : Int32)) _ _ h ha
  have j181 : ∀ (x1 : Int32) (x3 : Int32) (x5 : Int32) (x6 : Int32) (y1 : Int32) (y2 : Int32) (A : q_St) (S : q_S), Rep ad nv md A S → aX8_addRow_b181 nv md Q1 x1 x3 x5 x6 y1 y2 A → wX8_addRow_b181 Q2 (ad 128) x1 x3 x5 x6 (ad 150) y1 y2 S := by
    intro x1 x3 x5 x6 y1 y2 A S h ha
    unfold wX8_addRow_b181
    unfold aX8_addRow_b181 at ha
    refine e_s h isaX8_noteMany ha (fun A_13 S h ha => ?_)
    exact j185 q_fuel x1 x3 x5 x6 (0 : Int32) _ _ h ha
  have j150 : ∀ (x1 : Int32) (x3 : Int32) (x5 : Int32) (x6 : Int32) (y1 : Int32) (y2 : Int32) (y3 : Int32) (A : q_St) (S : q_S), Rep ad nv md A S → aX8_addRow_b150 nv md Q1 x1 x3 x5 x6 y1 y2 y3 A → wX8_addRow_b150 Q2 (ad 128) x1 x3 x5 x6 (ad 147) y1 y2 y3 S := by
    intro x1 x3 x5 x6 y1 y2 y3 A S h ha
    unfold wX8_addRow_b150
    unfold aX8_addRow_b150 at ha
    refine e_s h isaX8_width ha (fun A_14 S h ha => ?_)
    refine ⟨_, _, cX8 h, rfl, ?_⟩
    refine ⟨fun c_15 => ?_, fun c_15 => ?_⟩
    · replace ha := ha.1 c_15
      refine ⟨_, _, cX8 h, rfl, ?_⟩
      refine e_l h isaX8_many ha (fun ha => ?_)
      exact j181 x1 x3 x5 x6 x6 (A_14 132 (((40 : Int32) * x5) + x3).toNatClampNeg) _ _ h ha
    · replace ha := ha.2 c_15
      exact j181 x1 x3 x5 x6 x6 (0 : Int32) _ _ h ha
  have j127 : ∀ (x1 : Int32) (x3 : Int32) (x5 : Int32) (x6 : Int32) (y0 : Int32) (A : q_St) (S : q_S), Rep ad nv md A S → aX8_addRow_b127 nv md Q1 x1 x3 x5 x6 y0 A → wX8_addRow_b127 Q2 (ad 128) x1 x3 x5 x6 y0 S := by
    intro x1 x3 x5 x6 y0 A S h ha
    unfold wX8_addRow_b127
    unfold aX8_addRow_b127 at ha
    refine ⟨_, _, cX8 h, rfl, ?_⟩
    refine EX8_isNeeded h ha (fun v_17 A_16 S h ha => ?_)
    refine ⟨fun c_18 => ?_, fun c_18 => ?_⟩
    · replace ha := ha.1 c_18
      exact j150 x1 x3 x5 x6 x6 y0 (0 : Int32) _ _ h ha
    · replace ha := ha.2 c_18
      exact j150 x1 x3 x5 x6 x6 y0 (1 : Int32) _ _ h ha
  have j67 : ∀ (x1 : Int32) (x2 : Int32) (x3 : Int32) (x5 : Int32) (x6 : Int32) (y1 : Int32) (y2 : Int32) (A : q_St) (S : q_S), Rep ad nv md A S → aX8_addRow_b67 nv md Q1 x1 x2 x3 x5 x6 y1 y2 A → wX8_addRow_b67 Q2 (ad 128) x1 x2 x3 x5 x6 (ad 149) y1 y2 S := by
    intro x1 x2 x3 x5 x6 y1 y2 A S h ha
    unfold wX8_addRow_b67
    unfold aX8_addRow_b67 at ha
    refine e_s h isaX8_cueFrom ha (fun A_19 S h ha => ?_)
    refine ⟨_, _, cX8 h, rfl, ?_⟩
    refine EX8_writtenKey h ha (fun v_21 A_20 S h ha => ?_)
    refine e_s h isaX8_key ha (fun A_22 S h ha => ?_)
    refine ⟨fun c_23 => ?_, fun c_23 => ?_⟩
    · replace ha := ha.1 c_23
      refine ⟨fun c_24 => ?_, fun c_24 => ?_⟩
      · replace ha := ha.1 c_24
        refine ⟨fun c_25 => ?_, fun c_25 => ?_⟩
        · replace ha := ha.1 c_25
          exact j127 x1 x3 x5 x6 (4 : Int32) _ _ h ha
        · replace ha := ha.2 c_25
          refine EX8_unlikeStarts h ha (fun v_27 A_26 S h ha => ?_)
          exact j127 x1 x3 x5 x6 ((1 : Int32) + ((v_27 + (1 : Int32)) / (2 : Int32))) _ _ h ha
      · replace ha := ha.2 c_24
        exact j127 x1 x3 x5 x6 (2 : Int32) _ _ h ha
    · replace ha := ha.2 c_23
      refine EX8_unlikeStarts h ha (fun v_29 A_28 S h ha => ?_)
      exact j127 x1 x3 x5 x6 ((1 : Int32) + v_29) _ _ h ha
  unfold wX8_addRow
  unfold aX8_addRow at ha
  refine ⟨⟨_, cX8 h⟩, ?_⟩
  refine ⟨_, _, cX8 h, rfl, ?_⟩
  refine e_l h isaX8_rows ha (fun ha => ?_)
  refine ⟨_, _, cX8 h, rfl, ?_⟩
  refine e_l h isaX8_rows ha (fun ha => ?_)
  refine e_s h isaX8_rows ha (fun A_30 S h ha => ?_)
  refine ⟨_, _, cX8 h, rfl, ?_⟩
  refine e_s h isaX8_sort ha (fun A_31 S h ha => ?_)
  refine ⟨_, _, cX8 h, rfl, ?_⟩
  refine e_s h isaX8_first ha (fun A_32 S h ha => ?_)
  refine ⟨_, _, cX8 h, rfl, ?_⟩
  refine e_s h isaX8_span ha (fun A_33 S h ha => ?_)
  refine ⟨_, _, cX8 h, rfl, ?_⟩
  refine ⟨fun c_34 => ?_, fun c_34 => ?_⟩
  · replace ha := ha.1 c_34
    exact j67 x1 x2 x3 x5 ((240 : Int32) + (A 143 (6 : Int32).toNatClampNeg)) ((240 : Int32) + (A 143 (6 : Int32).toNatClampNeg)) (-100 : Int32) _ _ h ha
  · replace ha := ha.2 c_34
    exact j67 x1 x2 x3 x5 ((240 : Int32) + (A 143 (6 : Int32).toNatClampNeg)) ((240 : Int32) + (A 143 (6 : Int32).toNatClampNeg)) x5 _ _ h ha
set_option maxHeartbeats 2000000 in
theorem EX8_isTacet {ad : Nat → Nat} {nv : Nat} {md : Nat → Bool} {A : q_St} {S : q_S} {x1 : Int32} (h : Rep ad nv md A S) {Q1 : Int32 → q_St → Prop} {Q2 : Int32 → q_S → Prop} (ha : aX8_isTacet nv md x1 Q1 A) (hq : ∀ (r : Int32) (A : q_St) (S : q_S), Rep ad nv md A S → Q1 r A → Q2 r S) : wX8_isTacet (ad 128) x1 Q2 S := by
  have j30 : ∀ (k4 : Int32 → Int32 → Int32 → q_St → Prop) (m4 : Nat → Int32 → Int32 → Int32 → q_S → Prop) (ih4 : ∀ (x1 : Int32) (x2 : Int32) (x3 : Int32) (A : q_St) (S : q_S), Rep ad nv md A S → k4 x1 x2 x3 A → m4 (ad 128) x1 x2 x3 S) (x1 : Int32) (x3 : Int32) (y0 : Int32) (A : q_St) (S : q_S), Rep ad nv md A S → aX8_isTacet_b30 nv md Q1 k4 x1 x3 y0 A → wX8_isTacet_b30 Q2 m4 (ad 128) x1 x3 y0 S := by
    intro k4 m4 ih4 x1 x3 y0 A S h ha
    unfold wX8_isTacet_b30
    unfold aX8_isTacet_b30 at ha
    exact ih4 x1 y0 (x3 + (1 : Int32)) _ _ h ha
  have j29 : ∀ (k4 : Int32 → Int32 → Int32 → q_St → Prop) (m4 : Nat → Int32 → Int32 → Int32 → q_S → Prop) (ih4 : ∀ (x1 : Int32) (x2 : Int32) (x3 : Int32) (A : q_St) (S : q_S), Rep ad nv md A S → k4 x1 x2 x3 A → m4 (ad 128) x1 x2 x3 S) (x1 : Int32) (x3 : Int32) (A : q_St) (S : q_S), Rep ad nv md A S → aX8_isTacet_b29 nv md Q1 k4 x1 x3 A → wX8_isTacet_b29 Q2 m4 (ad 128) x1 x3 S := by
    intro k4 m4 ih4 x1 x3 A S h ha
    unfold wX8_isTacet_b29
    unfold aX8_isTacet_b29 at ha
    exact j30 k4 _ ih4 x1 x3 (0 : Int32) _ _ h ha
  have j4 : ∀ (n : Nat), ∀ (x1 : Int32) (x2 : Int32) (x3 : Int32) (A : q_St) (S : q_S), Rep ad nv md A S → alX8_isTacet_b4 nv md Q1 n x1 x2 x3 A → lX8_isTacet_b4 Q2 n (ad 128) x1 x2 x3 S := by
    intro n
    induction n with
    | zero => intro x1 x2 x3 A S h ha; exact absurd ha (fun h => h)
    | succ n ih4 =>
      intro x1 x2 x3 A S h ha
      show wX8_isTacet_b4 Q2 (lX8_isTacet_b4 Q2 n) (ad 128) x1 x2 x3 S
      have ha : aX8_isTacet_b4 nv md Q1 (alX8_isTacet_b4 nv md Q1 n) x1 x2 x3 A := ha
      unfold wX8_isTacet_b4
      unfold aX8_isTacet_b4 at ha
      refine ⟨_, _, cX8 h, rfl, ?_⟩
      refine ⟨fun c_1 => ?_, fun c_1 => ?_⟩
      · replace ha := ha.1 c_1
        exact ⟨ha.1, hq _ _ _ h ha.2⟩
      · replace ha := ha.2 c_1
        refine ⟨fun c_2 => ?_, fun c_2 => ?_⟩
        · replace ha := ha.1 c_2
          exact j29 (alX8_isTacet_b4 nv md Q1 n) _ ih4 x1 x3 _ _ h ha
        · replace ha := ha.2 c_2
          refine EX8_isEmpty h ha (fun v_4 A_3 S h ha => ?_)
          refine ⟨fun c_5 => ?_, fun c_5 => ?_⟩
          · replace ha := ha.1 c_5
            exact j29 (alX8_isTacet_b4 nv md Q1 n) _ ih4 x1 x3 _ _ h ha
          · replace ha := ha.2 c_5
            exact j30 (alX8_isTacet_b4 nv md Q1 n) _ ih4 x1 x3 (1 : Int32) _ _ h ha
  unfold wX8_isTacet
  unfold aX8_isTacet at ha
  refine ⟨⟨_, cX8 h⟩, ?_⟩
  exact j4 q_fuel x1 (1 : Int32) (0 : Int32) _ _ h ha
set_option maxHeartbeats 2000000 in
theorem EX8_make {ad : Nat → Nat} {nv : Nat} {md : Nat → Bool} {A : q_St} {S : q_S} {x1 : Int32} (h : Rep ad nv md A S) {Q1 : q_St → Prop} {Q2 : q_S → Prop} (ha : aX8_make nv md x1 Q1 A) (hq : ∀ (A : q_St) (S : q_S), Rep ad nv md A S → Q1 A → Q2 S) : wX8_make (ad 128) x1 Q2 S := by
  have j166 : ∀ (k39 : Int32 → Int32 → q_St → Prop) (m39 : Nat → Int32 → Int32 → q_S → Prop) (ih39 : ∀ (x1 : Int32) (x2 : Int32) (A : q_St) (S : q_S), Rep ad nv md A S → k39 x1 x2 A → m39 (ad 128) x1 x2 S) (x1 : Int32) (x2 : Int32) (A : q_St) (S : q_S), Rep ad nv md A S → aX8_make_b166 nv md Q1 k39 x1 x2 A → wX8_make_b166 Q2 m39 (ad 128) x1 x2 S := by
    intro k39 m39 ih39 x1 x2 A S h ha
    unfold wX8_make_b166
    unfold aX8_make_b166 at ha
    exact ih39 x1 x2 _ _ h ha
  have j150 : ∀ (k39 : Int32 → Int32 → q_St → Prop) (m39 : Nat → Int32 → Int32 → q_S → Prop) (ih39 : ∀ (x1 : Int32) (x2 : Int32) (A : q_St) (S : q_S), Rep ad nv md A S → k39 x1 x2 A → m39 (ad 128) x1 x2 S) (x1 : Int32) (x2 : Int32) (x4 : Int32) (A : q_St) (S : q_S), Rep ad nv md A S → aX8_make_b150 nv md Q1 k39 x1 x2 x4 A → wX8_make_b150 Q2 m39 (ad 128) x1 x2 x4 S := by
    intro k39 m39 ih39 x1 x2 x4 A S h ha
    unfold wX8_make_b150
    unfold aX8_make_b150 at ha
    refine EX8_addRow h ha (fun A_1 S h ha => ?_)
    exact j166 k39 _ ih39 x1 x4 _ _ h ha
  have j104 : ∀ (k39 : Int32 → Int32 → q_St → Prop) (m39 : Nat → Int32 → Int32 → q_S → Prop) (ih39 : ∀ (x1 : Int32) (x2 : Int32) (A : q_St) (S : q_S), Rep ad nv md A S → k39 x1 x2 A → m39 (ad 128) x1 x2 S) (n : Nat), ∀ (x1 : Int32) (x2 : Int32) (x4 : Int32) (A : q_St) (S : q_S), Rep ad nv md A S → alX8_make_b104 nv md Q1 k39 n x1 x2 x4 A → lX8_make_b104 Q2 m39 n (ad 128) x1 x2 x4 S := by
    intro k39 m39 ih39
    intro n
    induction n with
    | zero => intro x1 x2 x4 A S h ha; exact absurd ha (fun h => h)
    | succ n ih104 =>
      intro x1 x2 x4 A S h ha
      show wX8_make_b104 Q2 m39 (lX8_make_b104 Q2 m39 n) (ad 128) x1 x2 x4 S
      have ha : aX8_make_b104 nv md Q1 k39 (alX8_make_b104 nv md Q1 k39 n) x1 x2 x4 A := ha
      unfold wX8_make_b104
      unfold aX8_make_b104 at ha
      refine ⟨_, _, cX8 h, rfl, ?_⟩
      refine ⟨fun c_2 => ?_, fun c_2 => ?_⟩
      · replace ha := ha.1 c_2
        exact j150 k39 _ ih39 x1 x2 x4 _ _ h ha
      · replace ha := ha.2 c_2
        refine EX8_isEmpty h ha (fun v_4 A_3 S h ha => ?_)
        refine ⟨fun c_5 => ?_, fun c_5 => ?_⟩
        · replace ha := ha.1 c_5
          exact j150 k39 _ ih39 x1 x2 x4 _ _ h ha
        · replace ha := ha.2 c_5
          refine EX8_isNeeded h ha (fun v_7 A_6 S h ha => ?_)
          refine ⟨fun c_8 => ?_, fun c_8 => ?_⟩
          · replace ha := ha.1 c_8
            exact j150 k39 _ ih39 x1 x2 x4 _ _ h ha
          · replace ha := ha.2 c_8
            refine EX8_cueOf h ha (fun v_10 A_9 S h ha => ?_)
            refine ⟨fun c_11 => ?_, fun c_11 => ?_⟩
            · replace ha := ha.1 c_11
              exact j150 k39 _ ih39 x1 x2 x4 _ _ h ha
            · replace ha := ha.2 c_11
              exact ih104 x1 x2 (x4 + (1 : Int32)) _ _ h ha
  have j39 : ∀ (n : Nat), ∀ (x1 : Int32) (x2 : Int32) (A : q_St) (S : q_S), Rep ad nv md A S → alX8_make_b39 nv md Q1 n x1 x2 A → lX8_make_b39 Q2 n (ad 128) x1 x2 S := by
    intro n
    induction n with
    | zero => intro x1 x2 A S h ha; exact absurd ha (fun h => h)
    | succ n ih39 =>
      intro x1 x2 A S h ha
      show wX8_make_b39 Q2 (lX8_make_b39 Q2 n) (ad 128) x1 x2 S
      have ha : aX8_make_b39 nv md Q1 (alX8_make_b39 nv md Q1 n) x1 x2 A := ha
      unfold wX8_make_b39
      unfold aX8_make_b39 at ha
      refine ⟨_, _, cX8 h, rfl, ?_⟩
      refine ⟨fun c_12 => ?_, fun c_12 => ?_⟩
      · replace ha := ha.1 c_12
        exact hq _ _ h ha
      · replace ha := ha.2 c_12
        refine EX8_cueOf h ha (fun v_14 A_13 S h ha => ?_)
        refine EX8_isEmpty h ha (fun v_16 A_15 S h ha => ?_)
        refine ⟨fun c_17 => ?_, fun c_17 => ?_⟩
        · replace ha := ha.1 c_17
          refine ⟨fun c_18 => ?_, fun c_18 => ?_⟩
          · replace ha := ha.1 c_18
            exact j104 (alX8_make_b39 nv md Q1 n) _ ih39 q_fuel x1 x2 (x2 + (1 : Int32)) _ _ h ha
          · replace ha := ha.2 c_18
            refine EX8_addRow h ha (fun A_19 S h ha => ?_)
            exact j166 (alX8_make_b39 nv md Q1 n) _ ih39 x1 (x2 + (1 : Int32)) _ _ h ha
        · replace ha := ha.2 c_17
          refine EX8_addRow h ha (fun A_20 S h ha => ?_)
          exact j166 (alX8_make_b39 nv md Q1 n) _ ih39 x1 (x2 + (1 : Int32)) _ _ h ha
  unfold wX8_make
  unfold aX8_make at ha
  refine ⟨⟨_, cX8 h⟩, ?_⟩
  refine ⟨_, _, cX8 h, rfl, ?_⟩
  refine e_s h isaX8_rows ha (fun A_21 S h ha => ?_)
  refine EX8_isTacet h ha (fun v_23 A_22 S h ha => ?_)
  refine ⟨fun c_24 => ?_, fun c_24 => ?_⟩
  · replace ha := ha.1 c_24
    exact j39 q_fuel x1 (0 : Int32) _ _ h ha
  · replace ha := ha.2 c_24
    refine ⟨_, _, cX8 h, rfl, ?_⟩
    refine ⟨fun c_25 => ?_, fun c_25 => ?_⟩
    · replace ha := ha.1 c_25
      exact hq _ _ h ha
    · replace ha := ha.2 c_25
      refine ⟨_, _, cX8 h, rfl, ?_⟩
      refine EX8_addRow h ha (fun A_26 S h ha => ?_)
      exact hq _ _ h ha
set_option maxHeartbeats 2000000 in
theorem EX8_keep {ad : Nat → Nat} {nv : Nat} {md : Nat → Bool} {A : q_St} {S : q_S} {x1 : Int32} (h : Rep ad nv md A S) {Q1 : q_St → Prop} {Q2 : q_S → Prop} (ha : aX8_keep nv md x1 Q1 A) (hq : ∀ (A : q_St) (S : q_S), Rep ad nv md A S → Q1 A → Q2 S) : wX8_keep (ad 128) x1 Q2 S := by
  have j141 : ∀ (k22 : Int32 → Int32 → q_St → Prop) (m22 : Nat → Int32 → Int32 → q_S → Prop) (ih22 : ∀ (x1 : Int32) (x2 : Int32) (A : q_St) (S : q_S), Rep ad nv md A S → k22 x1 x2 A → m22 (ad 128) x1 x2 S) (n : Nat), ∀ (x1 : Int32) (x2 : Int32) (x3 : Int32) (x4 : Int32) (x5 : Int32) (A : q_St) (S : q_S), Rep ad nv md A S → alX8_keep_b141 nv md Q1 k22 n x1 x2 x3 x4 x5 A → lX8_keep_b141 Q2 m22 n (ad 128) x1 x2 x3 x4 x5 S := by
    intro k22 m22 ih22
    intro n
    induction n with
    | zero => intro x1 x2 x3 x4 x5 A S h ha; exact absurd ha (fun h => h)
    | succ n ih141 =>
      intro x1 x2 x3 x4 x5 A S h ha
      show wX8_keep_b141 Q2 m22 (lX8_keep_b141 Q2 m22 n) (ad 128) x1 x2 x3 x4 x5 S
      have ha : aX8_keep_b141 nv md Q1 k22 (alX8_keep_b141 nv md Q1 k22 n) x1 x2 x3 x4 x5 A := ha
      unfold wX8_keep_b141
      unfold aX8_keep_b141 at ha
      refine ⟨fun c_1 => ?_, fun c_1 => ?_⟩
      · replace ha := ha.1 c_1
        exact ih22 x1 (x2 + (1 : Int32)) _ _ h ha
      · replace ha := ha.2 c_1
        refine ⟨_, _, cX8 h, rfl, ?_⟩
        refine ⟨_, _, cX8 h, rfl, ?_⟩
        refine e_l h isaX8_notes ha (fun ha => ?_)
        refine e_s h isaX8_notes ha (fun A_2 S h ha => ?_)
        exact ih141 x1 x2 x3 x4 (x5 + (1 : Int32)) _ _ h ha
  have j22 : ∀ (n : Nat), ∀ (x1 : Int32) (x2 : Int32) (A : q_St) (S : q_S), Rep ad nv md A S → alX8_keep_b22 nv md Q1 n x1 x2 A → lX8_keep_b22 Q2 n (ad 128) x1 x2 S := by
    intro n
    induction n with
    | zero => intro x1 x2 A S h ha; exact absurd ha (fun h => h)
    | succ n ih22 =>
      intro x1 x2 A S h ha
      show wX8_keep_b22 Q2 (lX8_keep_b22 Q2 n) (ad 128) x1 x2 S
      have ha : aX8_keep_b22 nv md Q1 (alX8_keep_b22 nv md Q1 n) x1 x2 A := ha
      unfold wX8_keep_b22
      unfold aX8_keep_b22 at ha
      refine ⟨_, _, cX8 h, rfl, ?_⟩
      refine e_l h isaX8_rows ha (fun ha => ?_)
      refine ⟨fun c_3 => ?_, fun c_3 => ?_⟩
      · replace ha := ha.1 c_3
        exact hq _ _ h ha
      · replace ha := ha.2 c_3
        refine ⟨_, _, cX8 h, rfl, ?_⟩
        refine ⟨_, _, cX8 h, rfl, ?_⟩
        refine e_l h isaX8_sort ha (fun ha => ?_)
        refine e_s h isaX8_sort ha (fun A_4 S h ha => ?_)
        refine ⟨_, _, cX8 h, rfl, ?_⟩
        refine ⟨_, _, cX8 h, rfl, ?_⟩
        refine e_l h isaX8_first ha (fun ha => ?_)
        refine e_s h isaX8_first ha (fun A_5 S h ha => ?_)
        refine ⟨_, _, cX8 h, rfl, ?_⟩
        refine ⟨_, _, cX8 h, rfl, ?_⟩
        refine e_l h isaX8_span ha (fun ha => ?_)
        refine e_s h isaX8_span ha (fun A_6 S h ha => ?_)
        refine ⟨_, _, cX8 h, rfl, ?_⟩
        refine ⟨_, _, cX8 h, rfl, ?_⟩
        refine e_l h isaX8_width ha (fun ha => ?_)
        refine e_s h isaX8_width ha (fun A_7 S h ha => ?_)
        refine ⟨_, _, cX8 h, rfl, ?_⟩
        refine ⟨_, _, cX8 h, rfl, ?_⟩
        refine e_l h isaX8_key ha (fun ha => ?_)
        refine e_s h isaX8_key ha (fun A_8 S h ha => ?_)
        refine ⟨_, _, cX8 h, rfl, ?_⟩
        refine ⟨_, _, cX8 h, rfl, ?_⟩
        refine e_l h isaX8_cueFrom ha (fun ha => ?_)
        refine e_s h isaX8_cueFrom ha (fun A_9 S h ha => ?_)
        refine ⟨_, _, cX8 h, rfl, ?_⟩
        refine ⟨_, _, cX8 h, rfl, ?_⟩
        refine e_l h isaX8_noteMany ha (fun ha => ?_)
        refine e_s h isaX8_noteMany ha (fun A_10 S h ha => ?_)
        exact j141 (alX8_keep_b22 nv md Q1 n) _ ih22 q_fuel x1 x2 (((40 : Int32) * x1) + x2) ((240 : Int32) + x2) (0 : Int32) _ _ h ha
  unfold wX8_keep
  unfold aX8_keep at ha
  refine ⟨⟨_, cX8 h⟩, ?_⟩
  refine ⟨_, _, cX8 h, rfl, ?_⟩
  refine e_sz h isaX8_isMade ha (fun A_11 S h ha => ?_)
  refine ⟨_, _, cX8 h, rfl, ?_⟩
  refine ⟨_, _, cX8 h, rfl, ?_⟩
  refine e_l h isaX8_rows ha (fun ha => ?_)
  refine e_s h isaX8_rows ha (fun A_12 S h ha => ?_)
  exact j22 q_fuel x1 (0 : Int32) _ _ h ha
set_option maxHeartbeats 2000000 in
theorem EX8_isLike {ad : Nat → Nat} {nv : Nat} {md : Nat → Bool} {A : q_St} {S : q_S} {x1 : Int32} {x2 : Int32} (h : Rep ad nv md A S) {Q1 : Int32 → q_St → Prop} {Q2 : Int32 → q_S → Prop} (ha : aX8_isLike nv md x1 x2 Q1 A) (hq : ∀ (r : Int32) (A : q_St) (S : q_S), Rep ad nv md A S → Q1 r A → Q2 r S) : wX8_isLike (ad 128) x1 x2 Q2 S := by
  have j163 : ∀ (k114 : Int32 → Int32 → Int32 → Int32 → q_St → Prop) (m114 : Nat → Int32 → Int32 → Int32 → Int32 → q_S → Prop) (ih114 : ∀ (x1 : Int32) (x2 : Int32) (x3 : Int32) (x4 : Int32) (A : q_St) (S : q_S), Rep ad nv md A S → k114 x1 x2 x3 x4 A → m114 (ad 128) x1 x2 x3 x4 S) (x1 : Int32) (x2 : Int32) (x4 : Int32) (y0 : Int32) (A : q_St) (S : q_S), Rep ad nv md A S → aX8_isLike_b163 nv md Q1 k114 x1 x2 x4 y0 A → wX8_isLike_b163 Q2 m114 (ad 128) x1 x2 x4 y0 S := by
    intro k114 m114 ih114 x1 x2 x4 y0 A S h ha
    unfold wX8_isLike_b163
    unfold aX8_isLike_b163 at ha
    exact ih114 x1 x2 y0 (x4 + (1 : Int32)) _ _ h ha
  have j162 : ∀ (k114 : Int32 → Int32 → Int32 → Int32 → q_St → Prop) (m114 : Nat → Int32 → Int32 → Int32 → Int32 → q_S → Prop) (ih114 : ∀ (x1 : Int32) (x2 : Int32) (x3 : Int32) (x4 : Int32) (A : q_St) (S : q_S), Rep ad nv md A S → k114 x1 x2 x3 x4 A → m114 (ad 128) x1 x2 x3 x4 S) (x1 : Int32) (x2 : Int32) (x4 : Int32) (A : q_St) (S : q_S), Rep ad nv md A S → aX8_isLike_b162 nv md Q1 k114 x1 x2 x4 A → wX8_isLike_b162 Q2 m114 (ad 128) x1 x2 x4 S := by
    intro k114 m114 ih114 x1 x2 x4 A S h ha
    unfold wX8_isLike_b162
    unfold aX8_isLike_b162 at ha
    exact j163 k114 _ ih114 x1 x2 x4 (0 : Int32) _ _ h ha
  have j114 : ∀ (n : Nat), ∀ (x1 : Int32) (x2 : Int32) (x3 : Int32) (x4 : Int32) (A : q_St) (S : q_S), Rep ad nv md A S → alX8_isLike_b114 nv md Q1 n x1 x2 x3 x4 A → lX8_isLike_b114 Q2 n (ad 128) x1 x2 x3 x4 S := by
    intro n
    induction n with
    | zero => intro x1 x2 x3 x4 A S h ha; exact absurd ha (fun h => h)
    | succ n ih114 =>
      intro x1 x2 x3 x4 A S h ha
      show wX8_isLike_b114 Q2 (lX8_isLike_b114 Q2 n) (ad 128) x1 x2 x3 x4 S
      have ha : aX8_isLike_b114 nv md Q1 (alX8_isLike_b114 nv md Q1 n) x1 x2 x3 x4 A := ha
      unfold wX8_isLike_b114
      unfold aX8_isLike_b114 at ha
      refine ⟨_, _, cX8 h, rfl, ?_⟩
      refine e_l h isaX8_noteMany ha (fun ha => ?_)
      refine ⟨fun c_1 => ?_, fun c_1 => ?_⟩
      · replace ha := ha.1 c_1
        exact ⟨ha.1, hq _ _ _ h ha.2⟩
      · replace ha := ha.2 c_1
        refine ⟨fun c_2 => ?_, fun c_2 => ?_⟩
        · replace ha := ha.1 c_2
          exact j162 (alX8_isLike_b114 nv md Q1 n) _ ih114 x1 x2 x4 _ _ h ha
        · replace ha := ha.2 c_2
          refine ⟨_, _, cX8 h, rfl, ?_⟩
          refine e_l h isaX8_notes ha (fun ha => ?_)
          refine ⟨_, _, cX8 h, rfl, ?_⟩
          refine e_l h isaX8_notes ha (fun ha => ?_)
          refine ⟨fun c_3 => ?_, fun c_3 => ?_⟩
          · replace ha := ha.1 c_3
            exact j162 (alX8_isLike_b114 nv md Q1 n) _ ih114 x1 x2 x4 _ _ h ha
          · replace ha := ha.2 c_3
            exact j163 (alX8_isLike_b114 nv md Q1 n) _ ih114 x1 x2 x4 (1 : Int32) _ _ h ha
  have j110 : ∀ (x1 : Int32) (x2 : Int32) (y0 : Int32) (A : q_St) (S : q_S), Rep ad nv md A S → aX8_isLike_b110 nv md Q1 x1 x2 y0 A → wX8_isLike_b110 Q2 (ad 128) x1 x2 y0 S := by
    intro x1 x2 y0 A S h ha
    unfold wX8_isLike_b110
    unfold aX8_isLike_b110 at ha
    exact j114 q_fuel x1 x2 y0 (0 : Int32) _ _ h ha
  have j109 : ∀ (x1 : Int32) (x2 : Int32) (A : q_St) (S : q_S), Rep ad nv md A S → aX8_isLike_b109 nv md Q1 x1 x2 A → wX8_isLike_b109 Q2 (ad 128) x1 x2 S := by
    intro x1 x2 A S h ha
    unfold wX8_isLike_b109
    unfold aX8_isLike_b109 at ha
    exact j110 x1 x2 (0 : Int32) _ _ h ha
  unfold wX8_isLike
  unfold aX8_isLike at ha
  refine ⟨⟨_, cX8 h⟩, ?_⟩
  refine ⟨_, _, cX8 h, rfl, ?_⟩
  refine e_l h isaX8_sort ha (fun ha => ?_)
  refine ⟨_, _, cX8 h, rfl, ?_⟩
  refine e_l h isaX8_sort ha (fun ha => ?_)
  refine ⟨fun c_4 => ?_, fun c_4 => ?_⟩
  · replace ha := ha.1 c_4
    exact j109 x1 x2 _ _ h ha
  · replace ha := ha.2 c_4
    refine ⟨_, _, cX8 h, rfl, ?_⟩
    refine e_l h isaX8_first ha (fun ha => ?_)
    refine ⟨_, _, cX8 h, rfl, ?_⟩
    refine e_l h isaX8_first ha (fun ha => ?_)
    refine ⟨fun c_5 => ?_, fun c_5 => ?_⟩
    · replace ha := ha.1 c_5
      exact j109 x1 x2 _ _ h ha
    · replace ha := ha.2 c_5
      refine ⟨_, _, cX8 h, rfl, ?_⟩
      refine e_l h isaX8_span ha (fun ha => ?_)
      refine ⟨_, _, cX8 h, rfl, ?_⟩
      refine e_l h isaX8_span ha (fun ha => ?_)
      refine ⟨fun c_6 => ?_, fun c_6 => ?_⟩
      · replace ha := ha.1 c_6
        exact j109 x1 x2 _ _ h ha
      · replace ha := ha.2 c_6
        refine ⟨_, _, cX8 h, rfl, ?_⟩
        refine e_l h isaX8_width ha (fun ha => ?_)
        refine ⟨_, _, cX8 h, rfl, ?_⟩
        refine e_l h isaX8_width ha (fun ha => ?_)
        refine ⟨fun c_7 => ?_, fun c_7 => ?_⟩
        · replace ha := ha.1 c_7
          exact j109 x1 x2 _ _ h ha
        · replace ha := ha.2 c_7
          refine ⟨_, _, cX8 h, rfl, ?_⟩
          refine e_l h isaX8_key ha (fun ha => ?_)
          refine ⟨_, _, cX8 h, rfl, ?_⟩
          refine e_l h isaX8_key ha (fun ha => ?_)
          refine ⟨fun c_8 => ?_, fun c_8 => ?_⟩
          · replace ha := ha.1 c_8
            exact j109 x1 x2 _ _ h ha
          · replace ha := ha.2 c_8
            refine ⟨_, _, cX8 h, rfl, ?_⟩
            refine e_l h isaX8_cueFrom ha (fun ha => ?_)
            refine ⟨_, _, cX8 h, rfl, ?_⟩
            refine e_l h isaX8_cueFrom ha (fun ha => ?_)
            refine ⟨fun c_9 => ?_, fun c_9 => ?_⟩
            · replace ha := ha.1 c_9
              exact j109 x1 x2 _ _ h ha
            · replace ha := ha.2 c_9
              refine ⟨_, _, cX8 h, rfl, ?_⟩
              refine e_l h isaX8_noteMany ha (fun ha => ?_)
              refine ⟨_, _, cX8 h, rfl, ?_⟩
              refine e_l h isaX8_noteMany ha (fun ha => ?_)
              refine ⟨fun c_10 => ?_, fun c_10 => ?_⟩
              · replace ha := ha.1 c_10
                exact j109 x1 x2 _ _ h ha
              · replace ha := ha.2 c_10
                exact j110 x1 x2 (1 : Int32) _ _ h ha
set_option maxHeartbeats 2000000 in
theorem EX8_isPart {ad : Nat → Nat} {nv : Nat} {md : Nat → Bool} {A : q_St} {S : q_S} {x1 : Int32} (h : Rep ad nv md A S) {Q1 : Int32 → q_St → Prop} {Q2 : Int32 → q_S → Prop} (ha : aX8_isPart nv md x1 Q1 A) (hq : ∀ (r : Int32) (A : q_St) (S : q_S), Rep ad nv md A S → Q1 r A → Q2 r S) : wX8_isPart (ad 128) x1 Q2 S := by
  unfold wX8_isPart
  unfold aX8_isPart at ha
  refine ⟨⟨_, cX8 h⟩, ?_⟩
  refine EX8_isVoice h ha (fun v_2 A_1 S h ha => ?_)
  refine ⟨fun c_3 => ?_, fun c_3 => ?_⟩
  · replace ha := ha.1 c_3
    exact ⟨ha.1, hq _ _ _ h ha.2⟩
  · replace ha := ha.2 c_3
    refine ⟨_, _, cX8 h, rfl, ?_⟩
    refine e_lz h isaX8_isMade ha (fun ha => ?_)
    refine ⟨fun c_4 => ?_, fun c_4 => ?_⟩
    · replace ha := ha.1 c_4
      exact ⟨ha.1, hq _ _ _ h ha.2⟩
    · replace ha := ha.2 c_4
      exact ⟨ha.1, hq _ _ _ h ha.2⟩
set_option maxHeartbeats 2000000 in
theorem EX8_extract {ad : Nat → Nat} {nv : Nat} {md : Nat → Bool} {A : q_St} {S : q_S} {x1 : Int32} (h : Rep ad nv md A S) {Q1 : Int32 → q_St → Prop} {Q2 : Int32 → q_S → Prop} (ha : aX8_extract nv md x1 Q1 A) (hq : ∀ (r : Int32) (A : q_St) (S : q_S), Rep ad nv md A S → Q1 r A → Q2 r S) : wX8_extract (ad 128) x1 Q2 S := by
  unfold wX8_extract
  unfold aX8_extract at ha
  refine ⟨⟨_, cX8 h⟩, ?_⟩
  refine EX8_isVoice h ha (fun v_2 A_1 S h ha => ?_)
  refine ⟨fun c_3 => ?_, fun c_3 => ?_⟩
  · replace ha := ha.1 c_3
    refine EX8_make h ha (fun A_4 S h ha => ?_)
    refine EX8_keep h ha (fun A_5 S h ha => ?_)
    refine ⟨_, _, cX8 h, rfl, ?_⟩
    refine e_l h isaX8_rows ha (fun ha => ?_)
    exact hq _ _ _ h ha
  · replace ha := ha.2 c_3
    exact hq _ _ _ h ha
set_option maxHeartbeats 2000000 in
theorem EX8_row {ad : Nat → Nat} {nv : Nat} {md : Nat → Bool} {A : q_St} {S : q_S} {x1 : Int32} {x2 : Int32} {x3 : Int32} (h : Rep ad nv md A S) {Q1 : Int32 → q_St → Prop} {Q2 : Int32 → q_S → Prop} (ha : aX8_row nv md x1 x2 x3 Q1 A) (hq : ∀ (r : Int32) (A : q_St) (S : q_S), Rep ad nv md A S → Q1 r A → Q2 r S) : wX8_row (ad 128) x1 x2 x3 Q2 S := by
  unfold wX8_row
  unfold aX8_row at ha
  refine ⟨⟨_, cX8 h⟩, ?_⟩
  refine EX8_isPart h ha (fun v_2 A_1 S h ha => ?_)
  refine ⟨fun c_3 => ?_, fun c_3 => ?_⟩
  · replace ha := ha.1 c_3
    exact hq _ _ _ h ha
  · replace ha := ha.2 c_3
    refine ⟨_, _, cX8 h, rfl, ?_⟩
    refine e_l h isaX8_rows ha (fun ha => ?_)
    refine EX8_in h ha (fun v_5 A_4 S h ha => ?_)
    refine ⟨fun c_6 => ?_, fun c_6 => ?_⟩
    · replace ha := ha.1 c_6
      refine ⟨fun c => ?_, fun c => ?_, fun c => ?_, fun c => ?_, fun c => ?_, fun c => ?_, fun c => ?_, fun c => ?_⟩
      · replace ha := ha.1 c
        exact hq _ _ _ h ha
      · replace ha := ha.2.1 c
        refine ⟨_, _, cX8 h, rfl, ?_⟩
        refine e_l h isaX8_sort ha (fun ha => ?_)
        exact hq _ _ _ h ha
      · replace ha := ha.2.2.1 c
        refine ⟨_, _, cX8 h, rfl, ?_⟩
        refine e_l h isaX8_first ha (fun ha => ?_)
        exact hq _ _ _ h ha
      · replace ha := ha.2.2.2.1 c
        refine ⟨_, _, cX8 h, rfl, ?_⟩
        refine e_l h isaX8_span ha (fun ha => ?_)
        exact hq _ _ _ h ha
      · replace ha := ha.2.2.2.2.1 c
        refine ⟨_, _, cX8 h, rfl, ?_⟩
        refine e_l h isaX8_width ha (fun ha => ?_)
        exact hq _ _ _ h ha
      · replace ha := ha.2.2.2.2.2.1 c
        refine ⟨_, _, cX8 h, rfl, ?_⟩
        refine e_l h isaX8_key ha (fun ha => ?_)
        exact hq _ _ _ h ha
      · replace ha := ha.2.2.2.2.2.2.1 c
        refine ⟨_, _, cX8 h, rfl, ?_⟩
        refine e_l h isaX8_noteMany ha (fun ha => ?_)
        exact hq _ _ _ h ha
      · replace ha := ha.2.2.2.2.2.2.2 c
        refine ⟨_, _, cX8 h, rfl, ?_⟩
        refine e_l h isaX8_cueFrom ha (fun ha => ?_)
        exact hq _ _ _ h ha
    · replace ha := ha.2 c_6
      exact hq _ _ _ h ha
set_option maxHeartbeats 2000000 in
theorem EX8_written {ad : Nat → Nat} {nv : Nat} {md : Nat → Bool} {A : q_St} {S : q_S} {x1 : Int32} {x2 : Int32} {x3 : Int32} {x4 : Int32} (h : Rep ad nv md A S) {Q1 : Int32 → q_St → Prop} {Q2 : Int32 → q_S → Prop} (ha : aX8_written nv md x1 x2 x3 x4 Q1 A) (hq : ∀ (r : Int32) (A : q_St) (S : q_S), Rep ad nv md A S → Q1 r A → Q2 r S) : wX8_written (ad 128) x1 x2 x3 x4 Q2 S := by
  unfold wX8_written
  unfold aX8_written at ha
  refine ⟨⟨_, cX8 h⟩, ?_⟩
  refine EX8_isPart h ha (fun v_2 A_1 S h ha => ?_)
  refine ⟨fun c_3 => ?_, fun c_3 => ?_⟩
  · replace ha := ha.1 c_3
    exact hq _ _ _ h ha
  · replace ha := ha.2 c_3
    refine ⟨_, _, cX8 h, rfl, ?_⟩
    refine e_l h isaX8_rows ha (fun ha => ?_)
    refine EX8_in h ha (fun v_5 A_4 S h ha => ?_)
    refine ⟨fun c_6 => ?_, fun c_6 => ?_⟩
    · replace ha := ha.1 c_6
      exact hq _ _ _ h ha
    · replace ha := ha.2 c_6
      refine ⟨_, _, cX8 h, rfl, ?_⟩
      refine e_l h isaX8_noteMany ha (fun ha => ?_)
      refine EX8_in h ha (fun v_8 A_7 S h ha => ?_)
      refine ⟨fun c_9 => ?_, fun c_9 => ?_⟩
      · replace ha := ha.1 c_9
        refine EX8_in h ha (fun v_11 A_10 S h ha => ?_)
        refine ⟨fun c_12 => ?_, fun c_12 => ?_⟩
        · replace ha := ha.1 c_12
          exact hq _ _ _ h ha
        · replace ha := ha.2 c_12
          refine ⟨_, _, cX8 h, rfl, ?_⟩
          refine e_l h isaX8_notes ha (fun ha => ?_)
          exact hq _ _ _ h ha
      · replace ha := ha.2 c_9
        exact hq _ _ _ h ha
set_option maxHeartbeats 2000000 in
theorem EX8_unlike {ad : Nat → Nat} {nv : Nat} {md : Nat → Bool} {A : q_St} {S : q_S} {x1 : Int32} (h : Rep ad nv md A S) {Q1 : Int32 → q_St → Prop} {Q2 : Int32 → q_S → Prop} (ha : aX8_unlike nv md x1 Q1 A) (hq : ∀ (r : Int32) (A : q_St) (S : q_S), Rep ad nv md A S → Q1 r A → Q2 r S) : wX8_unlike (ad 128) x1 Q2 S := by
  have j63 : ∀ (x1 : Int32) (x2 : Int32) (A : q_St) (S : q_S), Rep ad nv md A S → aX8_unlike_b63 nv md Q1 x1 x2 A → wX8_unlike_b63 Q2 (ad 128) x1 x2 S := by
    intro x1 x2 A S h ha
    unfold wX8_unlike_b63
    unfold aX8_unlike_b63 at ha
    refine ⟨_, _, cX8 h, rfl, ?_⟩
    refine e_l h isaX8_rows ha (fun ha => ?_)
    refine ⟨fun c_1 => ?_, fun c_1 => ?_⟩
    · replace ha := ha.1 c_1
      exact hq _ _ _ h ha
    · replace ha := ha.2 c_1
      refine ⟨_, _, cX8 h, rfl, ?_⟩
      refine e_l h isaX8_rows ha (fun ha => ?_)
      refine ⟨fun c_2 => ?_, fun c_2 => ?_⟩
      · replace ha := ha.1 c_2
        exact hq _ _ _ h ha
      · replace ha := ha.2 c_2
        exact hq _ _ _ h ha
  have j18 : ∀ (n : Nat), ∀ (x1 : Int32) (x2 : Int32) (A : q_St) (S : q_S), Rep ad nv md A S → alX8_unlike_b18 nv md Q1 n x1 x2 A → lX8_unlike_b18 Q2 n (ad 128) x1 x2 S := by
    intro n
    induction n with
    | zero => intro x1 x2 A S h ha; exact absurd ha (fun h => h)
    | succ n ih18 =>
      intro x1 x2 A S h ha
      show wX8_unlike_b18 Q2 (lX8_unlike_b18 Q2 n) (ad 128) x1 x2 S
      have ha : aX8_unlike_b18 nv md Q1 (alX8_unlike_b18 nv md Q1 n) x1 x2 A := ha
      unfold wX8_unlike_b18
      unfold aX8_unlike_b18 at ha
      refine ⟨_, _, cX8 h, rfl, ?_⟩
      refine e_l h isaX8_rows ha (fun ha => ?_)
      refine ⟨fun c_3 => ?_, fun c_3 => ?_⟩
      · replace ha := ha.1 c_3
        exact j63 x1 x2 _ _ h ha
      · replace ha := ha.2 c_3
        refine ⟨_, _, cX8 h, rfl, ?_⟩
        refine e_l h isaX8_rows ha (fun ha => ?_)
        refine ⟨fun c_4 => ?_, fun c_4 => ?_⟩
        · replace ha := ha.1 c_4
          exact j63 x1 x2 _ _ h ha
        · replace ha := ha.2 c_4
          refine EX8_isLike h ha (fun v_6 A_5 S h ha => ?_)
          refine ⟨fun c_7 => ?_, fun c_7 => ?_⟩
          · replace ha := ha.1 c_7
            exact j63 x1 x2 _ _ h ha
          · replace ha := ha.2 c_7
            exact ih18 x1 (x2 + (1 : Int32)) _ _ h ha
  unfold wX8_unlike
  unfold aX8_unlike at ha
  refine ⟨⟨_, cX8 h⟩, ?_⟩
  refine EX8_isPart h ha (fun v_9 A_8 S h ha => ?_)
  refine ⟨fun c_10 => ?_, fun c_10 => ?_⟩
  · replace ha := ha.1 c_10
    refine EX8_make h ha (fun A_11 S h ha => ?_)
    exact j18 q_fuel x1 (0 : Int32) _ _ h ha
  · replace ha := ha.2 c_10
    exact hq _ _ _ h ha
set_option maxHeartbeats 2000000 in
theorem EX8_tacet {ad : Nat → Nat} {nv : Nat} {md : Nat → Bool} {A : q_St} {S : q_S} {x1 : Int32} (h : Rep ad nv md A S) {Q1 : Int32 → q_St → Prop} {Q2 : Int32 → q_S → Prop} (ha : aX8_tacet nv md x1 Q1 A) (hq : ∀ (r : Int32) (A : q_St) (S : q_S), Rep ad nv md A S → Q1 r A → Q2 r S) : wX8_tacet (ad 128) x1 Q2 S := by
  unfold wX8_tacet
  unfold aX8_tacet at ha
  refine ⟨⟨_, cX8 h⟩, ?_⟩
  refine EX8_isVoice h ha (fun v_2 A_1 S h ha => ?_)
  refine ⟨fun c_3 => ?_, fun c_3 => ?_⟩
  · replace ha := ha.1 c_3
    exact hq _ _ _ h ha
  · replace ha := ha.2 c_3
    refine EX8_isTacet h ha (fun v_5 A_4 S h ha => ?_)
    refine ⟨fun c_6 => ?_, fun c_6 => ?_⟩
    · replace ha := ha.1 c_6
      exact hq _ _ _ h ha
    · replace ha := ha.2 c_6
      exact hq _ _ _ h ha
set_option maxHeartbeats 2000000 in
theorem EX8_isLongRest {ad : Nat → Nat} {nv : Nat} {md : Nat → Bool} {A : q_St} {S : q_S} {x1 : Int32} (h : Rep ad nv md A S) {Q1 : Int32 → q_St → Prop} {Q2 : Int32 → q_S → Prop} (ha : aX8_isLongRest nv md x1 Q1 A) (hq : ∀ (r : Int32) (A : q_St) (S : q_S), Rep ad nv md A S → Q1 r A → Q2 r S) : wX8_isLongRest (ad 128) x1 Q2 S := by
  unfold wX8_isLongRest
  unfold aX8_isLongRest at ha
  refine ⟨⟨_, cX8 h⟩, ?_⟩
  refine ⟨_, _, cX8 h, rfl, ?_⟩
  refine e_l h isaX8_sort ha (fun ha => ?_)
  refine ⟨fun c_1 => ?_, fun c_1 => ?_⟩
  · replace ha := ha.1 c_1
    exact ⟨ha.1, hq _ _ _ h ha.2⟩
  · replace ha := ha.2 c_1
    refine ⟨_, _, cX8 h, rfl, ?_⟩
    refine e_l h isaX8_span ha (fun ha => ?_)
    refine ⟨fun c_2 => ?_, fun c_2 => ?_⟩
    · replace ha := ha.1 c_2
      exact ⟨ha.1, hq _ _ _ h ha.2⟩
    · replace ha := ha.2 c_2
      exact ⟨ha.1, hq _ _ _ h ha.2⟩
set_option maxHeartbeats 2000000 in
theorem EX8_lines {ad : Nat → Nat} {nv : Nat} {md : Nat → Bool} {A : q_St} {S : q_S} {x1 : Int32} (h : Rep ad nv md A S) {Q1 : q_St → Prop} {Q2 : q_S → Prop} (ha : aX8_lines nv md x1 Q1 A) (hq : ∀ (A : q_St) (S : q_S), Rep ad nv md A S → Q1 A → Q2 S) : wX8_lines (ad 128) x1 Q2 S := by
  have j69 : ∀ (k9 : Int32 → Int32 → Int32 → q_St → Prop) (m9 : Nat → Int32 → Int32 → Int32 → q_S → Prop) (ih9 : ∀ (x1 : Int32) (x2 : Int32) (x3 : Int32) (A : q_St) (S : q_S), Rep ad nv md A S → k9 x1 x2 x3 A → m9 (ad 128) x1 x2 x3 S) (x1 : Int32) (x2 : Int32) (x3 : Int32) (x4 : Int32) (A : q_St) (S : q_S), Rep ad nv md A S → aX8_lines_b69 nv md Q1 k9 x1 x2 x3 x4 A → wX8_lines_b69 Q2 m9 (ad 128) x1 x2 x3 x4 S := by
    intro k9 m9 ih9 x1 x2 x3 x4 A S h ha
    unfold wX8_lines_b69
    unfold aX8_lines_b69 at ha
    exact ih9 x1 (x2 + x4) (x3 + (1 : Int32)) _ _ h ha
  have j47 : ∀ (k9 : Int32 → Int32 → Int32 → q_St → Prop) (m9 : Nat → Int32 → Int32 → Int32 → q_S → Prop) (ih9 : ∀ (x1 : Int32) (x2 : Int32) (x3 : Int32) (A : q_St) (S : q_S), Rep ad nv md A S → k9 x1 x2 x3 A → m9 (ad 128) x1 x2 x3 S) (x1 : Int32) (x3 : Int32) (x4 : Int32) (A : q_St) (S : q_S), Rep ad nv md A S → aX8_lines_b47 nv md Q1 k9 x1 x3 x4 A → wX8_lines_b47 Q2 m9 (ad 128) x1 x3 x4 S := by
    intro k9 m9 ih9 x1 x3 x4 A S h ha
    unfold wX8_lines_b47
    unfold aX8_lines_b47 at ha
    refine ⟨_, _, cX8 h, rfl, ?_⟩
    refine ⟨_, _, cX8 h, rfl, ?_⟩
    refine e_s h isaX8_system ha (fun A_1 S h ha => ?_)
    refine ⟨_, _, cX8 h, rfl, ?_⟩
    refine e_pX8_25 h ha (fun A_2 S h ha => ?_)
    exact j69 k9 _ ih9 x1 (0 : Int32) x3 x4 _ _ h ha
  have j9 : ∀ (n : Nat), ∀ (x1 : Int32) (x2 : Int32) (x3 : Int32) (A : q_St) (S : q_S), Rep ad nv md A S → alX8_lines_b9 nv md Q1 n x1 x2 x3 A → lX8_lines_b9 Q2 n (ad 128) x1 x2 x3 S := by
    intro n
    induction n with
    | zero => intro x1 x2 x3 A S h ha; exact absurd ha (fun h => h)
    | succ n ih9 =>
      intro x1 x2 x3 A S h ha
      show wX8_lines_b9 Q2 (lX8_lines_b9 Q2 n) (ad 128) x1 x2 x3 S
      have ha : aX8_lines_b9 nv md Q1 (alX8_lines_b9 nv md Q1 n) x1 x2 x3 A := ha
      unfold wX8_lines_b9
      unfold aX8_lines_b9 at ha
      refine ⟨_, _, cX8 h, rfl, ?_⟩
      refine e_l h isaX8_rows ha (fun ha => ?_)
      refine ⟨fun c_3 => ?_, fun c_3 => ?_⟩
      · replace ha := ha.1 c_3
        refine ⟨_, _, cX8 h, rfl, ?_⟩
        refine ⟨_, _, cX8 h, rfl, ?_⟩
        refine ⟨_, _, cX8 h, rfl, ?_⟩
        refine e_l h isaX8_rows ha (fun ha => ?_)
        refine e_s h isaX8_system ha (fun A_4 S h ha => ?_)
        exact hq _ _ h ha
      · replace ha := ha.2 c_3
        refine ⟨_, _, cX8 h, rfl, ?_⟩
        refine e_l h isaX8_width ha (fun ha => ?_)
        refine ⟨fun c_5 => ?_, fun c_5 => ?_⟩
        · replace ha := ha.1 c_5
          exact j47 (alX8_lines_b9 nv md Q1 n) _ ih9 x1 x3 (A 147 (((40 : Int32) * x1) + x3).toNatClampNeg) _ _ h ha
        · replace ha := ha.2 c_5
          refine ⟨_, _, cX8 h, rfl, ?_⟩
          refine ⟨fun c_6 => ?_, fun c_6 => ?_⟩
          · replace ha := ha.1 c_6
            exact j69 (alX8_lines_b9 nv md Q1 n) _ ih9 x1 x2 x3 (A 147 (((40 : Int32) * x1) + x3).toNatClampNeg) _ _ h ha
          · replace ha := ha.2 c_6
            exact j47 (alX8_lines_b9 nv md Q1 n) _ ih9 x1 x3 (A 147 (((40 : Int32) * x1) + x3).toNatClampNeg) _ _ h ha
  unfold wX8_lines
  unfold aX8_lines at ha
  refine ⟨⟨_, cX8 h⟩, ?_⟩
  refine e_pX8_25 h ha (fun A_7 S h ha => ?_)
  exact j9 q_fuel x1 (0 : Int32) (0 : Int32) _ _ h ha
set_option maxHeartbeats 2000000 in
theorem EX8_layPages {ad : Nat → Nat} {nv : Nat} {md : Nat → Bool} {A : q_St} {S : q_S} {x1 : Int32} (h : Rep ad nv md A S) {Q1 : q_St → Prop} {Q2 : q_S → Prop} (ha : aX8_layPages nv md x1 Q1 A) (hq : ∀ (A : q_St) (S : q_S), Rep ad nv md A S → Q1 A → Q2 S) : wX8_layPages (ad 128) x1 Q2 S := by
  have j136 : ∀ (k12 : Int32 → Int32 → q_St → Prop) (m12 : Nat → Int32 → Int32 → q_S → Prop) (ih12 : ∀ (x1 : Int32) (x2 : Int32) (A : q_St) (S : q_S), Rep ad nv md A S → k12 x1 x2 A → m12 (ad 128) x1 x2 S) (x1 : Int32) (x2 : Int32) (x4 : Int32) (y0 : Int32) (A : q_St) (S : q_S), Rep ad nv md A S → aX8_layPages_b136 nv md Q1 k12 x1 x2 x4 y0 A → wX8_layPages_b136 Q2 m12 (ad 128) x1 x2 x4 y0 S := by
    intro k12 m12 ih12 x1 x2 x4 y0 A S h ha
    unfold wX8_layPages_b136
    unfold aX8_layPages_b136 at ha
    refine ⟨_, _, cX8 h, rfl, ?_⟩
    refine ⟨_, _, cX8 h, rfl, ?_⟩
    refine ⟨_, _, cX8 h, rfl, ?_⟩
    refine e_l h isaX8_system ha (fun ha => ?_)
    refine e_s h isaX8_pageRow ha (fun A_1 S h ha => ?_)
    refine ⟨_, _, cX8 h, rfl, ?_⟩
    refine ⟨_, _, cX8 h, rfl, ?_⟩
    refine ⟨_, _, cX8 h, rfl, ?_⟩
    refine e_l h isaX8_system ha (fun ha => ?_)
    refine ⟨_, _, cX8 h, rfl, ?_⟩
    refine e_l h isaX8_system ha (fun ha => ?_)
    refine e_s h isaX8_pageRows ha (fun A_2 S h ha => ?_)
    refine ⟨_, _, cX8 h, rfl, ?_⟩
    refine ⟨_, _, cX8 h, rfl, ?_⟩
    refine e_s h isaX8_pageSystems ha (fun A_3 S h ha => ?_)
    refine ⟨_, _, cX8 h, rfl, ?_⟩
    refine ⟨_, _, cX8 h, rfl, ?_⟩
    refine e_sz h isaX8_turns ha (fun A_4 S h ha => ?_)
    refine ⟨_, _, cX8 h, rfl, ?_⟩
    refine e_pX8_26 h ha (fun A_5 S h ha => ?_)
    exact ih12 x1 (x2 + y0) _ _ h ha
  have j123 : ∀ (k12 : Int32 → Int32 → q_St → Prop) (m12 : Nat → Int32 → Int32 → q_S → Prop) (ih12 : ∀ (x1 : Int32) (x2 : Int32) (A : q_St) (S : q_S), Rep ad nv md A S → k12 x1 x2 A → m12 (ad 128) x1 x2 S) (x1 : Int32) (x2 : Int32) (x3 : Int32) (x4 : Int32) (A : q_St) (S : q_S), Rep ad nv md A S → aX8_layPages_b123 nv md Q1 k12 x1 x2 x3 x4 A → wX8_layPages_b123 Q2 m12 (ad 128) x1 x2 x3 x4 S := by
    intro k12 m12 ih12 x1 x2 x3 x4 A S h ha
    unfold wX8_layPages_b123
    unfold aX8_layPages_b123 at ha
    refine ⟨fun c_6 => ?_, fun c_6 => ?_⟩
    · replace ha := ha.1 c_6
      refine ⟨_, _, cX8 h, rfl, ?_⟩
      exact j136 k12 _ ih12 x1 x2 x4 (A 128 23) _ _ h ha
    · replace ha := ha.2 c_6
      exact j136 k12 _ ih12 x1 x2 x4 x3 _ _ h ha
  have j117 : ∀ (k48 : Int32 → Int32 → Int32 → Int32 → Int32 → q_St → Prop) (m48 : Nat → Int32 → Int32 → Int32 → Int32 → Int32 → q_S → Prop) (ih48 : ∀ (x1 : Int32) (x2 : Int32) (x3 : Int32) (x4 : Int32) (x5 : Int32) (A : q_St) (S : q_S), Rep ad nv md A S → k48 x1 x2 x3 x4 x5 A → m48 (ad 128) x1 x2 x3 x4 x5 S) (x1 : Int32) (x2 : Int32) (x3 : Int32) (x4 : Int32) (x5 : Int32) (A : q_St) (S : q_S), Rep ad nv md A S → aX8_layPages_b117 nv md Q1 k48 x1 x2 x3 x4 x5 A → wX8_layPages_b117 Q2 m48 (ad 128) x1 x2 x3 x4 x5 S := by
    intro k48 m48 ih48 x1 x2 x3 x4 x5 A S h ha
    unfold wX8_layPages_b117
    unfold aX8_layPages_b117 at ha
    exact ih48 x1 x2 x3 x4 (x5 + (-1 : Int32)) _ _ h ha
  have j111 : ∀ (k48 : Int32 → Int32 → Int32 → Int32 → Int32 → q_St → Prop) (m48 : Nat → Int32 → Int32 → Int32 → Int32 → Int32 → q_S → Prop) (ih48 : ∀ (x1 : Int32) (x2 : Int32) (x3 : Int32) (x4 : Int32) (x5 : Int32) (A : q_St) (S : q_S), Rep ad nv md A S → k48 x1 x2 x3 x4 x5 A → m48 (ad 128) x1 x2 x3 x4 x5 S) (x1 : Int32) (x2 : Int32) (x5 : Int32) (A : q_St) (S : q_S), Rep ad nv md A S → aX8_layPages_b111 nv md Q1 k48 x1 x2 x5 A → wX8_layPages_b111 Q2 m48 (ad 128) x1 x2 x5 S := by
    intro k48 m48 ih48 x1 x2 x5 A S h ha
    unfold wX8_layPages_b111
    unfold aX8_layPages_b111 at ha
    exact j117 k48 _ ih48 x1 x2 x5 (1 : Int32) x5 _ _ h ha
  have j48 : ∀ (k12 : Int32 → Int32 → q_St → Prop) (m12 : Nat → Int32 → Int32 → q_S → Prop) (ih12 : ∀ (x1 : Int32) (x2 : Int32) (A : q_St) (S : q_S), Rep ad nv md A S → k12 x1 x2 A → m12 (ad 128) x1 x2 S) (n : Nat), ∀ (x1 : Int32) (x2 : Int32) (x3 : Int32) (x4 : Int32) (x5 : Int32) (A : q_St) (S : q_S), Rep ad nv md A S → alX8_layPages_b48 nv md Q1 k12 n x1 x2 x3 x4 x5 A → lX8_layPages_b48 Q2 m12 n (ad 128) x1 x2 x3 x4 x5 S := by
    intro k12 m12 ih12
    intro n
    induction n with
    | zero => intro x1 x2 x3 x4 x5 A S h ha; exact absurd ha (fun h => h)
    | succ n ih48 =>
      intro x1 x2 x3 x4 x5 A S h ha
      show wX8_layPages_b48 Q2 m12 (lX8_layPages_b48 Q2 m12 n) (ad 128) x1 x2 x3 x4 x5 S
      have ha : aX8_layPages_b48 nv md Q1 k12 (alX8_layPages_b48 nv md Q1 k12 n) x1 x2 x3 x4 x5 A := ha
      unfold wX8_layPages_b48
      unfold aX8_layPages_b48 at ha
      refine ⟨fun c_7 => ?_, fun c_7 => ?_⟩
      · replace ha := ha.1 c_7
        exact j123 k12 _ ih12 x1 x2 x3 x4 _ _ h ha
      · replace ha := ha.2 c_7
        refine ⟨fun c_8 => ?_, fun c_8 => ?_⟩
        · replace ha := ha.1 c_8
          exact j123 k12 _ ih12 x1 x2 x3 x4 _ _ h ha
        · replace ha := ha.2 c_8
          refine ⟨_, _, cX8 h, rfl, ?_⟩
          refine ⟨fun c_9 => ?_, fun c_9 => ?_⟩
          · replace ha := ha.1 c_9
            exact j123 k12 _ ih12 x1 x2 x3 x4 _ _ h ha
          · replace ha := ha.2 c_9
            refine ⟨_, _, cX8 h, rfl, ?_⟩
            refine e_l h isaX8_system ha (fun ha => ?_)
            refine EX8_isLongRest h ha (fun v_11 A_10 S h ha => ?_)
            refine ⟨fun c_12 => ?_, fun c_12 => ?_⟩
            · replace ha := ha.1 c_12
              exact j111 (alX8_layPages_b48 nv md Q1 k12 n) _ ih48 x1 x2 x5 _ _ h ha
            · replace ha := ha.2 c_12
              refine EX8_isLongRest h ha (fun v_14 A_13 S h ha => ?_)
              refine ⟨fun c_15 => ?_, fun c_15 => ?_⟩
              · replace ha := ha.1 c_15
                exact j117 (alX8_layPages_b48 nv md Q1 k12 n) _ ih48 x1 x2 x3 x4 x5 _ _ h ha
              · replace ha := ha.2 c_15
                exact j111 (alX8_layPages_b48 nv md Q1 k12 n) _ ih48 x1 x2 x5 _ _ h ha
  have j40 : ∀ (k12 : Int32 → Int32 → q_St → Prop) (m12 : Nat → Int32 → Int32 → q_S → Prop) (ih12 : ∀ (x1 : Int32) (x2 : Int32) (A : q_St) (S : q_S), Rep ad nv md A S → k12 x1 x2 A → m12 (ad 128) x1 x2 S) (x1 : Int32) (x2 : Int32) (x3 : Int32) (y0 : Int32) (A : q_St) (S : q_S), Rep ad nv md A S → aX8_layPages_b40 nv md Q1 k12 x1 x2 x3 y0 A → wX8_layPages_b40 Q2 m12 (ad 128) x1 x2 x3 y0 S := by
    intro k12 m12 ih12 x1 x2 x3 y0 A S h ha
    unfold wX8_layPages_b40
    unfold aX8_layPages_b40 at ha
    refine ⟨_, _, cX8 h, rfl, ?_⟩
    exact j48 k12 _ ih12 q_fuel x1 x2 x3 y0 (A 128 23) _ _ h ha
  have j12 : ∀ (n : Nat), ∀ (x1 : Int32) (x2 : Int32) (A : q_St) (S : q_S), Rep ad nv md A S → alX8_layPages_b12 nv md Q1 n x1 x2 A → lX8_layPages_b12 Q2 n (ad 128) x1 x2 S := by
    intro n
    induction n with
    | zero => intro x1 x2 A S h ha; exact absurd ha (fun h => h)
    | succ n ih12 =>
      intro x1 x2 A S h ha
      show wX8_layPages_b12 Q2 (lX8_layPages_b12 Q2 n) (ad 128) x1 x2 S
      have ha : aX8_layPages_b12 nv md Q1 (alX8_layPages_b12 nv md Q1 n) x1 x2 A := ha
      unfold wX8_layPages_b12
      unfold aX8_layPages_b12 at ha
      refine ⟨_, _, cX8 h, rfl, ?_⟩
      refine ⟨fun c_16 => ?_, fun c_16 => ?_⟩
      · replace ha := ha.1 c_16
        exact hq _ _ h ha
      · replace ha := ha.2 c_16
        refine ⟨_, _, cX8 h, rfl, ?_⟩
        refine ⟨_, _, cX8 h, rfl, ?_⟩
        refine ⟨fun c_17 => ?_, fun c_17 => ?_⟩
        · replace ha := ha.1 c_17
          exact j40 (alX8_layPages_b12 nv md Q1 n) _ ih12 x1 x2 ((A 128 25) - x2) (0 : Int32) _ _ h ha
        · replace ha := ha.2 c_17
          exact j40 (alX8_layPages_b12 nv md Q1 n) _ ih12 x1 x2 ((A 128 25) - x2) (1 : Int32) _ _ h ha
  unfold wX8_layPages
  unfold aX8_layPages at ha
  refine ⟨⟨_, cX8 h⟩, ?_⟩
  refine EX8_lines h ha (fun A_18 S h ha => ?_)
  refine e_pX8_26 h ha (fun A_19 S h ha => ?_)
  exact j12 q_fuel x1 (0 : Int32) _ _ h ha
set_option maxHeartbeats 2000000 in
theorem EX8_odd {ad : Nat → Nat} {nv : Nat} {md : Nat → Bool} {A : q_St} {S : q_S} {x0 : Int32} (h : Rep ad nv md A S) {Q1 : Int32 → q_St → Prop} {Q2 : Int32 → q_S → Prop} (ha : aX8_odd nv md x0 Q1 A) (hq : ∀ (r : Int32) (A : q_St) (S : q_S), Rep ad nv md A S → Q1 r A → Q2 r S) : wX8_odd x0 Q2 S := by
  unfold wX8_odd
  unfold aX8_odd at ha
  refine ⟨fun c_1 => ?_, fun c_1 => ?_⟩
  · replace ha := ha.1 c_1
    exact hq _ _ _ h ha
  · replace ha := ha.2 c_1
    exact hq _ _ _ h ha
set_option maxHeartbeats 2000000 in
theorem EX8_renew {ad : Nat → Nat} {nv : Nat} {md : Nat → Bool} {A : q_St} {S : q_S} {x1 : Int32} (h : Rep ad nv md A S) {Q1 : Int32 → q_St → Prop} {Q2 : Int32 → q_S → Prop} (ha : aX8_renew nv md x1 Q1 A) (hq : ∀ (r : Int32) (A : q_St) (S : q_S), Rep ad nv md A S → Q1 r A → Q2 r S) : wX8_renew (ad 128) x1 Q2 S := by
  have j260 : ∀ (x1 : Int32) (x2 : Int32) (A : q_St) (S : q_S), Rep ad nv md A S → aX8_renew_b260 nv md Q1 x1 x2 A → wX8_renew_b260 Q2 (ad 128) x1 x2 S := by
    intro x1 x2 A S h ha
    unfold wX8_renew_b260
    unfold aX8_renew_b260 at ha
    refine EX8_keep h ha (fun A_1 S h ha => ?_)
    exact hq _ _ _ h ha
  have j255 : ∀ (k103 : Int32 → Int32 → Int32 → q_St → Prop) (m103 : Nat → Int32 → Int32 → Int32 → q_S → Prop) (ih103 : ∀ (x1 : Int32) (x2 : Int32) (x3 : Int32) (A : q_St) (S : q_S), Rep ad nv md A S → k103 x1 x2 x3 A → m103 (ad 128) x1 x2 x3 S) (x1 : Int32) (x3 : Int32) (y0 : Int32) (y1 : Int32) (A : q_St) (S : q_S), Rep ad nv md A S → aX8_renew_b255 nv md Q1 k103 x1 x3 y0 y1 A → wX8_renew_b255 Q2 m103 (ad 128) x1 x3 y0 y1 S := by
    intro k103 m103 ih103 x1 x3 y0 y1 A S h ha
    unfold wX8_renew_b255
    unfold aX8_renew_b255 at ha
    exact ih103 x1 (y0 + y1) x3 _ _ h ha
  have j245 : ∀ (k103 : Int32 → Int32 → Int32 → q_St → Prop) (m103 : Nat → Int32 → Int32 → Int32 → q_S → Prop) (ih103 : ∀ (x1 : Int32) (x2 : Int32) (x3 : Int32) (A : q_St) (S : q_S), Rep ad nv md A S → k103 x1 x2 x3 A → m103 (ad 128) x1 x2 x3 S) (x1 : Int32) (x2 : Int32) (x3 : Int32) (A : q_St) (S : q_S), Rep ad nv md A S → aX8_renew_b245 nv md Q1 k103 x1 x2 x3 A → wX8_renew_b245 Q2 m103 (ad 128) x1 x2 x3 S := by
    intro k103 m103 ih103 x1 x2 x3 A S h ha
    unfold wX8_renew_b245
    unfold aX8_renew_b245 at ha
    refine ⟨fun c_2 => ?_, fun c_2 => ?_⟩
    · replace ha := ha.1 c_2
      exact j255 k103 _ ih103 x1 x3 x2 (0 : Int32) _ _ h ha
    · replace ha := ha.2 c_2
      exact j255 k103 _ ih103 x1 x3 x2 (1 : Int32) _ _ h ha
  have j192 : ∀ (k103 : Int32 → Int32 → Int32 → q_St → Prop) (m103 : Nat → Int32 → Int32 → Int32 → q_S → Prop) (ih103 : ∀ (x1 : Int32) (x2 : Int32) (x3 : Int32) (A : q_St) (S : q_S), Rep ad nv md A S → k103 x1 x2 x3 A → m103 (ad 128) x1 x2 x3 S) (n : Nat), ∀ (x1 : Int32) (x2 : Int32) (x3 : Int32) (x4 : Int32) (A : q_St) (S : q_S), Rep ad nv md A S → alX8_renew_b192 nv md Q1 k103 n x1 x2 x3 x4 A → lX8_renew_b192 Q2 m103 n (ad 128) x1 x2 x3 x4 S := by
    intro k103 m103 ih103
    intro n
    induction n with
    | zero => intro x1 x2 x3 x4 A S h ha; exact absurd ha (fun h => h)
    | succ n ih192 =>
      intro x1 x2 x3 x4 A S h ha
      show wX8_renew_b192 Q2 m103 (lX8_renew_b192 Q2 m103 n) (ad 128) x1 x2 x3 x4 S
      have ha : aX8_renew_b192 nv md Q1 k103 (alX8_renew_b192 nv md Q1 k103 n) x1 x2 x3 x4 A := ha
      unfold wX8_renew_b192
      unfold aX8_renew_b192 at ha
      refine ⟨fun c_3 => ?_, fun c_3 => ?_⟩
      · replace ha := ha.1 c_3
        exact j245 k103 _ ih103 x1 x2 x3 _ _ h ha
      · replace ha := ha.2 c_3
        refine ⟨_, _, cX8 h, rfl, ?_⟩
        refine e_l h isaX8_pageRows ha (fun ha => ?_)
        refine ⟨fun c_4 => ?_, fun c_4 => ?_⟩
        · replace ha := ha.1 c_4
          exact j245 k103 _ ih103 x1 x2 x3 _ _ h ha
        · replace ha := ha.2 c_4
          refine ⟨_, _, cX8 h, rfl, ?_⟩
          refine e_l h isaX8_pageRow ha (fun ha => ?_)
          refine ⟨_, _, cX8 h, rfl, ?_⟩
          refine e_l h isaX8_pageRow ha (fun ha => ?_)
          refine EX8_isLike h ha (fun v_6 A_5 S h ha => ?_)
          exact ih192 x1 x2 v_6 (x4 + (1 : Int32)) _ _ h ha
  have j188 : ∀ (k103 : Int32 → Int32 → Int32 → q_St → Prop) (m103 : Nat → Int32 → Int32 → Int32 → q_S → Prop) (ih103 : ∀ (x1 : Int32) (x2 : Int32) (x3 : Int32) (A : q_St) (S : q_S), Rep ad nv md A S → k103 x1 x2 x3 A → m103 (ad 128) x1 x2 x3 S) (x1 : Int32) (x2 : Int32) (y0 : Int32) (A : q_St) (S : q_S), Rep ad nv md A S → aX8_renew_b188 nv md Q1 k103 x1 x2 y0 A → wX8_renew_b188 Q2 m103 (ad 128) x1 x2 y0 S := by
    intro k103 m103 ih103 x1 x2 y0 A S h ha
    unfold wX8_renew_b188
    unfold aX8_renew_b188 at ha
    exact j192 k103 _ ih103 q_fuel x1 x2 y0 (0 : Int32) _ _ h ha
  have j187 : ∀ (k103 : Int32 → Int32 → Int32 → q_St → Prop) (m103 : Nat → Int32 → Int32 → Int32 → q_S → Prop) (ih103 : ∀ (x1 : Int32) (x2 : Int32) (x3 : Int32) (A : q_St) (S : q_S), Rep ad nv md A S → k103 x1 x2 x3 A → m103 (ad 128) x1 x2 x3 S) (x1 : Int32) (x2 : Int32) (A : q_St) (S : q_S), Rep ad nv md A S → aX8_renew_b187 nv md Q1 k103 x1 x2 A → wX8_renew_b187 Q2 m103 (ad 128) x1 x2 S := by
    intro k103 m103 ih103 x1 x2 A S h ha
    unfold wX8_renew_b187
    unfold aX8_renew_b187 at ha
    exact j188 k103 _ ih103 x1 x2 (0 : Int32) _ _ h ha
  have j103 : ∀ (n : Nat), ∀ (x1 : Int32) (x2 : Int32) (x3 : Int32) (A : q_St) (S : q_S), Rep ad nv md A S → alX8_renew_b103 nv md Q1 n x1 x2 x3 A → lX8_renew_b103 Q2 n (ad 128) x1 x2 x3 S := by
    intro n
    induction n with
    | zero => intro x1 x2 x3 A S h ha; exact absurd ha (fun h => h)
    | succ n ih103 =>
      intro x1 x2 x3 A S h ha
      show wX8_renew_b103 Q2 (lX8_renew_b103 Q2 n) (ad 128) x1 x2 x3 S
      have ha : aX8_renew_b103 nv md Q1 (alX8_renew_b103 nv md Q1 n) x1 x2 x3 A := ha
      unfold wX8_renew_b103
      unfold aX8_renew_b103 at ha
      refine ⟨fun c_7 => ?_, fun c_7 => ?_⟩
      · replace ha := ha.1 c_7
        exact j260 x1 x2 _ _ h ha
      · replace ha := ha.2 c_7
        refine ⟨_, _, cX8 h, rfl, ?_⟩
        refine ⟨fun c_8 => ?_, fun c_8 => ?_⟩
        · replace ha := ha.1 c_8
          exact j260 x1 x2 _ _ h ha
        · replace ha := ha.2 c_8
          refine ⟨_, _, cX8 h, rfl, ?_⟩
          refine ⟨fun c_9 => ?_, fun c_9 => ?_⟩
          · replace ha := ha.1 c_9
            exact j260 x1 x2 _ _ h ha
          · replace ha := ha.2 c_9
            refine ⟨_, _, cX8 h, rfl, ?_⟩
            refine e_l h isaX8_oldRow ha (fun ha => ?_)
            refine ⟨_, _, cX8 h, rfl, ?_⟩
            refine e_l h isaX8_pageRow ha (fun ha => ?_)
            refine ⟨fun c_10 => ?_, fun c_10 => ?_⟩
            · replace ha := ha.1 c_10
              exact j187 (alX8_renew_b103 nv md Q1 n) _ ih103 x1 x2 _ _ h ha
            · replace ha := ha.2 c_10
              refine ⟨_, _, cX8 h, rfl, ?_⟩
              refine e_l h isaX8_oldRows ha (fun ha => ?_)
              refine ⟨_, _, cX8 h, rfl, ?_⟩
              refine e_l h isaX8_pageRows ha (fun ha => ?_)
              refine ⟨fun c_11 => ?_, fun c_11 => ?_⟩
              · replace ha := ha.1 c_11
                exact j187 (alX8_renew_b103 nv md Q1 n) _ ih103 x1 x2 _ _ h ha
              · replace ha := ha.2 c_11
                refine ⟨_, _, cX8 h, rfl, ?_⟩
                refine e_l h isaX8_oldSystems ha (fun ha => ?_)
                refine ⟨_, _, cX8 h, rfl, ?_⟩
                refine e_l h isaX8_pageSystems ha (fun ha => ?_)
                refine ⟨fun c_12 => ?_, fun c_12 => ?_⟩
                · replace ha := ha.1 c_12
                  exact j187 (alX8_renew_b103 nv md Q1 n) _ ih103 x1 x2 _ _ h ha
                · replace ha := ha.2 c_12
                  refine ⟨_, _, cX8 h, rfl, ?_⟩
                  refine e_lz h isaX8_oldTurns ha (fun ha => ?_)
                  refine ⟨_, _, cX8 h, rfl, ?_⟩
                  refine e_lz h isaX8_turns ha (fun ha => ?_)
                  refine ⟨fun c_13 => ?_, fun c_13 => ?_⟩
                  · replace ha := ha.1 c_13
                    exact j187 (alX8_renew_b103 nv md Q1 n) _ ih103 x1 x2 _ _ h ha
                  · replace ha := ha.2 c_13
                    exact j188 (alX8_renew_b103 nv md Q1 n) _ ih103 x1 x2 (1 : Int32) _ _ h ha
  have j26 : ∀ (n : Nat), ∀ (x1 : Int32) (x2 : Int32) (A : q_St) (S : q_S), Rep ad nv md A S → alX8_renew_b26 nv md Q1 n x1 x2 A → lX8_renew_b26 Q2 n (ad 128) x1 x2 S := by
    intro n
    induction n with
    | zero => intro x1 x2 A S h ha; exact absurd ha (fun h => h)
    | succ n ih26 =>
      intro x1 x2 A S h ha
      show wX8_renew_b26 Q2 (lX8_renew_b26 Q2 n) (ad 128) x1 x2 S
      have ha : aX8_renew_b26 nv md Q1 (alX8_renew_b26 nv md Q1 n) x1 x2 A := ha
      unfold wX8_renew_b26
      unfold aX8_renew_b26 at ha
      refine ⟨_, _, cX8 h, rfl, ?_⟩
      refine ⟨fun c_14 => ?_, fun c_14 => ?_⟩
      · replace ha := ha.1 c_14
        refine EX8_make h ha (fun A_15 S h ha => ?_)
        refine EX8_layPages h ha (fun A_16 S h ha => ?_)
        exact j103 q_fuel x1 (0 : Int32) (1 : Int32) _ _ h ha
      · replace ha := ha.2 c_14
        refine ⟨_, _, cX8 h, rfl, ?_⟩
        refine ⟨_, _, cX8 h, rfl, ?_⟩
        refine e_l h isaX8_pageRow ha (fun ha => ?_)
        refine e_s h isaX8_oldRow ha (fun A_17 S h ha => ?_)
        refine ⟨_, _, cX8 h, rfl, ?_⟩
        refine ⟨_, _, cX8 h, rfl, ?_⟩
        refine e_l h isaX8_pageRows ha (fun ha => ?_)
        refine e_s h isaX8_oldRows ha (fun A_18 S h ha => ?_)
        refine ⟨_, _, cX8 h, rfl, ?_⟩
        refine ⟨_, _, cX8 h, rfl, ?_⟩
        refine e_l h isaX8_pageSystems ha (fun ha => ?_)
        refine e_s h isaX8_oldSystems ha (fun A_19 S h ha => ?_)
        refine ⟨_, _, cX8 h, rfl, ?_⟩
        refine ⟨_, _, cX8 h, rfl, ?_⟩
        refine e_lz h isaX8_turns ha (fun ha => ?_)
        refine e_sz h isaX8_oldTurns ha (fun A_20 S h ha => ?_)
        exact ih26 x1 (x2 + (1 : Int32)) _ _ h ha
  unfold wX8_renew
  unfold aX8_renew at ha
  refine ⟨⟨_, cX8 h⟩, ?_⟩
  refine EX8_isPart h ha (fun v_22 A_21 S h ha => ?_)
  refine ⟨fun c_23 => ?_, fun c_23 => ?_⟩
  · replace ha := ha.1 c_23
    refine EX8_layPages h ha (fun A_24 S h ha => ?_)
    refine ⟨_, _, cX8 h, rfl, ?_⟩
    refine e_pX8_31 h ha (fun A_25 S h ha => ?_)
    exact j26 q_fuel x1 (0 : Int32) _ _ h ha
  · replace ha := ha.2 c_23
    exact hq _ _ _ h ha
set_option maxHeartbeats 2000000 in
theorem EX8_lay {ad : Nat → Nat} {nv : Nat} {md : Nat → Bool} {A : q_St} {S : q_S} {x1 : Int32} {x2 : Int32} (h : Rep ad nv md A S) {Q1 : Int32 → q_St → Prop} {Q2 : Int32 → q_S → Prop} (ha : aX8_lay nv md x1 x2 Q1 A) (hq : ∀ (r : Int32) (A : q_St) (S : q_S), Rep ad nv md A S → Q1 r A → Q2 r S) : wX8_lay (ad 128) x1 x2 Q2 S := by
  have j71 : ∀ (k39 : Int32 → Int32 → q_St → Prop) (m39 : Nat → Int32 → Int32 → q_S → Prop) (ih39 : ∀ (x3 : Int32) (x4 : Int32) (A : q_St) (S : q_S), Rep ad nv md A S → k39 x3 x4 A → m39 (ad 128) x3 x4 S) (x3 : Int32) (x4 : Int32) (A : q_St) (S : q_S), Rep ad nv md A S → aX8_lay_b71 nv md Q1 k39 x3 x4 A → wX8_lay_b71 Q2 m39 (ad 128) x3 x4 S := by
    intro k39 m39 ih39 x3 x4 A S h ha
    unfold wX8_lay_b71
    unfold aX8_lay_b71 at ha
    exact ih39 x3 (x4 + (1 : Int32)) _ _ h ha
  have j39 : ∀ (n : Nat), ∀ (x3 : Int32) (x4 : Int32) (A : q_St) (S : q_S), Rep ad nv md A S → alX8_lay_b39 nv md Q1 n x3 x4 A → lX8_lay_b39 Q2 n (ad 128) x3 x4 S := by
    intro n
    induction n with
    | zero => intro x3 x4 A S h ha; exact absurd ha (fun h => h)
    | succ n ih39 =>
      intro x3 x4 A S h ha
      show wX8_lay_b39 Q2 (lX8_lay_b39 Q2 n) (ad 128) x3 x4 S
      have ha : aX8_lay_b39 nv md Q1 (alX8_lay_b39 nv md Q1 n) x3 x4 A := ha
      unfold wX8_lay_b39
      unfold aX8_lay_b39 at ha
      refine ⟨_, _, cX8 h, rfl, ?_⟩
      refine ⟨fun c_1 => ?_, fun c_1 => ?_⟩
      · replace ha := ha.1 c_1
        exact hq _ _ _ h ha
      · replace ha := ha.2 c_1
        refine ⟨_, _, cX8 h, rfl, ?_⟩
        refine e_lz h isaX8_isMade ha (fun ha => ?_)
        refine ⟨fun c_2 => ?_, fun c_2 => ?_⟩
        · replace ha := ha.1 c_2
          exact j71 (alX8_lay_b39 nv md Q1 n) _ ih39 x3 x4 _ _ h ha
        · replace ha := ha.2 c_2
          refine EX8_layPages h ha (fun A_3 S h ha => ?_)
          refine ⟨_, _, cX8 h, rfl, ?_⟩
          exact j71 (alX8_lay_b39 nv md Q1 n) _ ih39 (x3 + (A_3 128 26)) x4 _ _ h ha
  unfold wX8_lay
  unfold aX8_lay at ha
  refine ⟨⟨_, cX8 h⟩, ?_⟩
  refine EX8_in h ha (fun v_5 A_4 S h ha => ?_)
  refine ⟨fun c_6 => ?_, fun c_6 => ?_⟩
  · replace ha := ha.1 c_6
    exact hq _ _ _ h ha
  · replace ha := ha.2 c_6
    refine EX8_in h ha (fun v_8 A_7 S h ha => ?_)
    refine ⟨fun c_9 => ?_, fun c_9 => ?_⟩
    · replace ha := ha.1 c_9
      refine e_pX8_22 h ha (fun A_10 S h ha => ?_)
      refine e_pX8_23 h ha (fun A_11 S h ha => ?_)
      exact j39 q_fuel (0 : Int32) (0 : Int32) _ _ h ha
    · replace ha := ha.2 c_9
      exact hq _ _ _ h ha
set_option maxHeartbeats 2000000 in
theorem EX8_pages {ad : Nat → Nat} {nv : Nat} {md : Nat → Bool} {A : q_St} {S : q_S} {x1 : Int32} (h : Rep ad nv md A S) {Q1 : Int32 → q_St → Prop} {Q2 : Int32 → q_S → Prop} (ha : aX8_pages nv md x1 Q1 A) (hq : ∀ (r : Int32) (A : q_St) (S : q_S), Rep ad nv md A S → Q1 r A → Q2 r S) : wX8_pages (ad 128) x1 Q2 S := by
  unfold wX8_pages
  unfold aX8_pages at ha
  refine ⟨⟨_, cX8 h⟩, ?_⟩
  refine EX8_isPart h ha (fun v_2 A_1 S h ha => ?_)
  refine ⟨fun c_3 => ?_, fun c_3 => ?_⟩
  · replace ha := ha.1 c_3
    refine EX8_layPages h ha (fun A_4 S h ha => ?_)
    refine ⟨_, _, cX8 h, rfl, ?_⟩
    exact hq _ _ _ h ha
  · replace ha := ha.2 c_3
    exact hq _ _ _ h ha
set_option maxHeartbeats 2000000 in
theorem EX8_lastNumber {ad : Nat → Nat} {nv : Nat} {md : Nat → Bool} {A : q_St} {S : q_S} {x1 : Int32} (h : Rep ad nv md A S) {Q1 : Int32 → q_St → Prop} {Q2 : Int32 → q_S → Prop} (ha : aX8_lastNumber nv md x1 Q1 A) (hq : ∀ (r : Int32) (A : q_St) (S : q_S), Rep ad nv md A S → Q1 r A → Q2 r S) : wX8_lastNumber (ad 128) x1 Q2 S := by
  have j48 : ∀ (k4 : Int32 → Int32 → Int32 → q_St → Prop) (m4 : Nat → Int32 → Int32 → Int32 → q_S → Prop) (ih4 : ∀ (x1 : Int32) (x2 : Int32) (x3 : Int32) (A : q_St) (S : q_S), Rep ad nv md A S → k4 x1 x2 x3 A → m4 (ad 128) x1 x2 x3 S) (x1 : Int32) (x2 : Int32) (x3 : Int32) (A : q_St) (S : q_S), Rep ad nv md A S → aX8_lastNumber_b48 nv md Q1 k4 x1 x2 x3 A → wX8_lastNumber_b48 Q2 m4 (ad 128) x1 x2 x3 S := by
    intro k4 m4 ih4 x1 x2 x3 A S h ha
    unfold wX8_lastNumber_b48
    unfold aX8_lastNumber_b48 at ha
    exact ih4 x1 x2 (x3 + (1 : Int32)) _ _ h ha
  have j47 : ∀ (k4 : Int32 → Int32 → Int32 → q_St → Prop) (m4 : Nat → Int32 → Int32 → Int32 → q_S → Prop) (ih4 : ∀ (x1 : Int32) (x2 : Int32) (x3 : Int32) (A : q_St) (S : q_S), Rep ad nv md A S → k4 x1 x2 x3 A → m4 (ad 128) x1 x2 x3 S) (x1 : Int32) (x3 : Int32) (y0 : Int32) (A : q_St) (S : q_S), Rep ad nv md A S → aX8_lastNumber_b47 nv md Q1 k4 x1 x3 y0 A → wX8_lastNumber_b47 Q2 m4 (ad 128) x1 x3 y0 S := by
    intro k4 m4 ih4 x1 x3 y0 A S h ha
    unfold wX8_lastNumber_b47
    unfold aX8_lastNumber_b47 at ha
    exact j48 k4 _ ih4 x1 y0 x3 _ _ h ha
  have j4 : ∀ (n : Nat), ∀ (x1 : Int32) (x2 : Int32) (x3 : Int32) (A : q_St) (S : q_S), Rep ad nv md A S → alX8_lastNumber_b4 nv md Q1 n x1 x2 x3 A → lX8_lastNumber_b4 Q2 n (ad 128) x1 x2 x3 S := by
    intro n
    induction n with
    | zero => intro x1 x2 x3 A S h ha; exact absurd ha (fun h => h)
    | succ n ih4 =>
      intro x1 x2 x3 A S h ha
      show wX8_lastNumber_b4 Q2 (lX8_lastNumber_b4 Q2 n) (ad 128) x1 x2 x3 S
      have ha : aX8_lastNumber_b4 nv md Q1 (alX8_lastNumber_b4 nv md Q1 n) x1 x2 x3 A := ha
      unfold wX8_lastNumber_b4
      unfold aX8_lastNumber_b4 at ha
      refine ⟨fun c_1 => ?_, fun c_1 => ?_⟩
      · replace ha := ha.1 c_1
        exact hq _ _ _ h ha
      · replace ha := ha.2 c_1
        refine ⟨_, _, cX8 h, rfl, ?_⟩
        refine e_lz h isaX8_isMade ha (fun ha => ?_)
        refine ⟨fun c_2 => ?_, fun c_2 => ?_⟩
        · replace ha := ha.1 c_2
          exact j48 (alX8_lastNumber_b4 nv md Q1 n) _ ih4 x1 x2 x3 _ _ h ha
        · replace ha := ha.2 c_2
          refine EX8_layPages h ha (fun A_3 S h ha => ?_)
          refine ⟨_, _, cX8 h, rfl, ?_⟩
          refine ⟨fun c_4 => ?_, fun c_4 => ?_⟩
          · replace ha := ha.1 c_4
            exact j47 (alX8_lastNumber_b4 nv md Q1 n) _ ih4 x1 x3 x2 _ _ h ha
          · replace ha := ha.2 c_4
            refine EX8_odd h ha (fun v_6 A_5 S h ha => ?_)
            refine ⟨_, _, cX8 h, rfl, ?_⟩
            exact j47 (alX8_lastNumber_b4 nv md Q1 n) _ ih4 x1 x3 ((v_6 + (A_5 128 26)) - (1 : Int32)) _ _ h ha
  unfold wX8_lastNumber
  unfold aX8_lastNumber at ha
  refine ⟨⟨_, cX8 h⟩, ?_⟩
  exact j4 q_fuel x1 (0 : Int32) (0 : Int32) _ _ h ha
set_option maxHeartbeats 2000000 in
theorem EX8_page {ad : Nat → Nat} {nv : Nat} {md : Nat → Bool} {A : q_St} {S : q_S} {x1 : Int32} {x2 : Int32} {x3 : Int32} (h : Rep ad nv md A S) {Q1 : Int32 → q_St → Prop} {Q2 : Int32 → q_S → Prop} (ha : aX8_page nv md x1 x2 x3 Q1 A) (hq : ∀ (r : Int32) (A : q_St) (S : q_S), Rep ad nv md A S → Q1 r A → Q2 r S) : wX8_page (ad 128) x1 x2 x3 Q2 S := by
  unfold wX8_page
  unfold aX8_page at ha
  refine ⟨⟨_, cX8 h⟩, ?_⟩
  refine EX8_isPart h ha (fun v_2 A_1 S h ha => ?_)
  refine ⟨fun c_3 => ?_, fun c_3 => ?_⟩
  · replace ha := ha.1 c_3
    refine EX8_lastNumber h ha (fun v_5 A_4 S h ha => ?_)
    refine EX8_odd h ha (fun v_7 A_6 S h ha => ?_)
    refine EX8_layPages h ha (fun A_8 S h ha => ?_)
    refine ⟨_, _, cX8 h, rfl, ?_⟩
    refine EX8_in h ha (fun v_10 A_9 S h ha => ?_)
    refine ⟨fun c_11 => ?_, fun c_11 => ?_⟩
    · replace ha := ha.1 c_11
      refine ⟨fun c => ?_, fun c => ?_, fun c => ?_, fun c => ?_, fun c => ?_, fun c => ?_⟩
      · replace ha := ha.1 c
        exact hq _ _ _ h ha
      · replace ha := ha.2.1 c
        refine ⟨_, _, cX8 h, rfl, ?_⟩
        refine e_l h isaX8_pageRow ha (fun ha => ?_)
        exact hq _ _ _ h ha
      · replace ha := ha.2.2.1 c
        refine ⟨_, _, cX8 h, rfl, ?_⟩
        refine e_l h isaX8_pageRows ha (fun ha => ?_)
        exact hq _ _ _ h ha
      · replace ha := ha.2.2.2.1 c
        refine ⟨_, _, cX8 h, rfl, ?_⟩
        refine e_l h isaX8_pageSystems ha (fun ha => ?_)
        exact hq _ _ _ h ha
      · replace ha := ha.2.2.2.2.1 c
        refine ⟨_, _, cX8 h, rfl, ?_⟩
        refine e_lz h isaX8_turns ha (fun ha => ?_)
        refine ⟨fun c_12 => ?_, fun c_12 => ?_⟩
        · replace ha := ha.1 c_12
          exact hq _ _ _ h ha
        · replace ha := ha.2 c_12
          exact hq _ _ _ h ha
      · replace ha := ha.2.2.2.2.2 c
        exact hq _ _ _ h ha
    · replace ha := ha.2 c_11
      exact hq _ _ _ h ha
  · replace ha := ha.2 c_3
    exact hq _ _ _ h ha
set_option maxHeartbeats 2000000 in
theorem EX8_areIn {ad : Nat → Nat} {nv : Nat} {md : Nat → Bool} {A : q_St} {S : q_S} {x1 : Int32} {x2 : Int32} {x3 : Int32} (h : Rep ad nv md A S) {Q1 : Int32 → q_St → Prop} {Q2 : Int32 → q_S → Prop} (ha : aX8_areIn nv md x1 x2 x3 Q1 A) (hq : ∀ (r : Int32) (A : q_St) (S : q_S), Rep ad nv md A S → Q1 r A → Q2 r S) : wX8_areIn (ad 128) x1 x2 x3 Q2 S := by
  have j191 : ∀ (k6 : Int32 → Int32 → Int32 → Int32 → Int32 → q_St → Prop) (m6 : Nat → Int32 → Int32 → Int32 → Int32 → Int32 → q_S → Prop) (ih6 : ∀ (x1 : Int32) (x2 : Int32) (x3 : Int32) (x4 : Int32) (x5 : Int32) (A : q_St) (S : q_S), Rep ad nv md A S → k6 x1 x2 x3 x4 x5 A → m6 (ad 128) x1 x2 x3 x4 x5 S) (x1 : Int32) (x2 : Int32) (x3 : Int32) (x5 : Int32) (y0 : Int32) (A : q_St) (S : q_S), Rep ad nv md A S → aX8_areIn_b191 nv md Q1 k6 x1 x2 x3 x5 y0 A → wX8_areIn_b191 Q2 m6 (ad 128) x1 x2 x3 x5 y0 S := by
    intro k6 m6 ih6 x1 x2 x3 x5 y0 A S h ha
    unfold wX8_areIn_b191
    unfold aX8_areIn_b191 at ha
    exact ih6 x1 x2 x3 y0 (x5 + (1 : Int32)) _ _ h ha
  have j190 : ∀ (k6 : Int32 → Int32 → Int32 → Int32 → Int32 → q_St → Prop) (m6 : Nat → Int32 → Int32 → Int32 → Int32 → Int32 → q_S → Prop) (ih6 : ∀ (x1 : Int32) (x2 : Int32) (x3 : Int32) (x4 : Int32) (x5 : Int32) (A : q_St) (S : q_S), Rep ad nv md A S → k6 x1 x2 x3 x4 x5 A → m6 (ad 128) x1 x2 x3 x4 x5 S) (x1 : Int32) (x2 : Int32) (x3 : Int32) (x5 : Int32) (A : q_St) (S : q_S), Rep ad nv md A S → aX8_areIn_b190 nv md Q1 k6 x1 x2 x3 x5 A → wX8_areIn_b190 Q2 m6 (ad 128) x1 x2 x3 x5 S := by
    intro k6 m6 ih6 x1 x2 x3 x5 A S h ha
    unfold wX8_areIn_b190
    unfold aX8_areIn_b190 at ha
    exact j191 k6 _ ih6 x1 x2 x3 x5 (0 : Int32) _ _ h ha
  have j168 : ∀ (k23 : Int32 → Int32 → Int32 → Int32 → Int32 → Int32 → Int32 → q_St → Prop) (m23 : Nat → Int32 → Int32 → Int32 → Int32 → Int32 → Int32 → Int32 → q_S → Prop) (ih23 : ∀ (x1 : Int32) (x2 : Int32) (x3 : Int32) (x4 : Int32) (x5 : Int32) (x6 : Int32) (x7 : Int32) (A : q_St) (S : q_S), Rep ad nv md A S → k23 x1 x2 x3 x4 x5 x6 x7 A → m23 (ad 128) x1 x2 x3 x4 x5 x6 x7 S) (x1 : Int32) (x2 : Int32) (x3 : Int32) (x4 : Int32) (x5 : Int32) (x7 : Int32) (y0 : Int32) (A : q_St) (S : q_S), Rep ad nv md A S → aX8_areIn_b168 nv md Q1 k23 x1 x2 x3 x4 x5 x7 y0 A → wX8_areIn_b168 Q2 m23 (ad 128) x1 x2 x3 x4 x5 x7 y0 S := by
    intro k23 m23 ih23 x1 x2 x3 x4 x5 x7 y0 A S h ha
    unfold wX8_areIn_b168
    unfold aX8_areIn_b168 at ha
    exact ih23 x1 x2 x3 x4 x5 y0 (x7 + (1 : Int32)) _ _ h ha
  have j167 : ∀ (k23 : Int32 → Int32 → Int32 → Int32 → Int32 → Int32 → Int32 → q_St → Prop) (m23 : Nat → Int32 → Int32 → Int32 → Int32 → Int32 → Int32 → Int32 → q_S → Prop) (ih23 : ∀ (x1 : Int32) (x2 : Int32) (x3 : Int32) (x4 : Int32) (x5 : Int32) (x6 : Int32) (x7 : Int32) (A : q_St) (S : q_S), Rep ad nv md A S → k23 x1 x2 x3 x4 x5 x6 x7 A → m23 (ad 128) x1 x2 x3 x4 x5 x6 x7 S) (x1 : Int32) (x2 : Int32) (x3 : Int32) (x4 : Int32) (x5 : Int32) (x7 : Int32) (A : q_St) (S : q_S), Rep ad nv md A S → aX8_areIn_b167 nv md Q1 k23 x1 x2 x3 x4 x5 x7 A → wX8_areIn_b167 Q2 m23 (ad 128) x1 x2 x3 x4 x5 x7 S := by
    intro k23 m23 ih23 x1 x2 x3 x4 x5 x7 A S h ha
    unfold wX8_areIn_b167
    unfold aX8_areIn_b167 at ha
    exact j168 k23 _ ih23 x1 x2 x3 x4 x5 x7 (0 : Int32) _ _ h ha
  have j163 : ∀ (k23 : Int32 → Int32 → Int32 → Int32 → Int32 → Int32 → Int32 → q_St → Prop) (m23 : Nat → Int32 → Int32 → Int32 → Int32 → Int32 → Int32 → Int32 → q_S → Prop) (ih23 : ∀ (x1 : Int32) (x2 : Int32) (x3 : Int32) (x4 : Int32) (x5 : Int32) (x6 : Int32) (x7 : Int32) (A : q_St) (S : q_S), Rep ad nv md A S → k23 x1 x2 x3 x4 x5 x6 x7 A → m23 (ad 128) x1 x2 x3 x4 x5 x6 x7 S) (x1 : Int32) (x2 : Int32) (x3 : Int32) (x4 : Int32) (x5 : Int32) (x7 : Int32) (A : q_St) (S : q_S), Rep ad nv md A S → aX8_areIn_b163 nv md Q1 k23 x1 x2 x3 x4 x5 x7 A → wX8_areIn_b163 Q2 m23 (ad 128) x1 x2 x3 x4 x5 x7 S := by
    intro k23 m23 ih23 x1 x2 x3 x4 x5 x7 A S h ha
    unfold wX8_areIn_b163
    unfold aX8_areIn_b163 at ha
    exact j168 k23 _ ih23 x1 x2 x3 x4 x5 x7 (1 : Int32) _ _ h ha
  have j93 : ∀ (k23 : Int32 → Int32 → Int32 → Int32 → Int32 → Int32 → Int32 → q_St → Prop) (m23 : Nat → Int32 → Int32 → Int32 → Int32 → Int32 → Int32 → Int32 → q_S → Prop) (ih23 : ∀ (x1 : Int32) (x2 : Int32) (x3 : Int32) (x4 : Int32) (x5 : Int32) (x6 : Int32) (x7 : Int32) (A : q_St) (S : q_S), Rep ad nv md A S → k23 x1 x2 x3 x4 x5 x6 x7 A → m23 (ad 128) x1 x2 x3 x4 x5 x6 x7 S) (x1 : Int32) (x2 : Int32) (x3 : Int32) (x4 : Int32) (x5 : Int32) (x6 : Int32) (x7 : Int32) (y0 : Int32) (A : q_St) (S : q_S), Rep ad nv md A S → aX8_areIn_b93 nv md Q1 k23 x1 x2 x3 x4 x5 x6 x7 y0 A → wX8_areIn_b93 Q2 m23 (ad 128) x1 x2 x3 x4 x5 x6 x7 y0 S := by
    intro k23 m23 ih23 x1 x2 x3 x4 x5 x6 x7 y0 A S h ha
    unfold wX8_areIn_b93
    unfold aX8_areIn_b93 at ha
    refine ⟨fun c_1 => ?_, fun c_1 => ?_⟩
    · replace ha := ha.1 c_1
      exact j163 k23 _ ih23 x1 x2 x3 x4 x5 x7 _ _ h ha
    · replace ha := ha.2 c_1
      refine ⟨fun c_2 => ?_, fun c_2 => ?_⟩
      · replace ha := ha.1 c_2
        exact j167 k23 _ ih23 x1 x2 x3 x4 x5 x7 _ _ h ha
      · replace ha := ha.2 c_2
        refine ⟨fun c_3 => ?_, fun c_3 => ?_⟩
        · replace ha := ha.1 c_3
          exact j163 k23 _ ih23 x1 x2 x3 x4 x5 x7 _ _ h ha
        · replace ha := ha.2 c_3
          refine ⟨_, _, cX8 h, rfl, ?_⟩
          refine e_l h isaX8_pitch ha (fun ha => ?_)
          refine ⟨_, _, cX8 h, rfl, ?_⟩
          refine e_l h isaX8_pitch ha (fun ha => ?_)
          refine ⟨fun c_4 => ?_, fun c_4 => ?_⟩
          · replace ha := ha.1 c_4
            exact j167 k23 _ ih23 x1 x2 x3 x4 x5 x7 _ _ h ha
          · replace ha := ha.2 c_4
            refine ⟨_, _, cX8 h, rfl, ?_⟩
            refine e_l h isaX8_spelling ha (fun ha => ?_)
            refine ⟨_, _, cX8 h, rfl, ?_⟩
            refine e_l h isaX8_spelling ha (fun ha => ?_)
            refine ⟨fun c_5 => ?_, fun c_5 => ?_⟩
            · replace ha := ha.1 c_5
              exact j167 k23 _ ih23 x1 x2 x3 x4 x5 x7 _ _ h ha
            · replace ha := ha.2 c_5
              exact j163 k23 _ ih23 x1 x2 x3 x4 x5 x7 _ _ h ha
  have j92 : ∀ (k23 : Int32 → Int32 → Int32 → Int32 → Int32 → Int32 → Int32 → q_St → Prop) (m23 : Nat → Int32 → Int32 → Int32 → Int32 → Int32 → Int32 → Int32 → q_S → Prop) (ih23 : ∀ (x1 : Int32) (x2 : Int32) (x3 : Int32) (x4 : Int32) (x5 : Int32) (x6 : Int32) (x7 : Int32) (A : q_St) (S : q_S), Rep ad nv md A S → k23 x1 x2 x3 x4 x5 x6 x7 A → m23 (ad 128) x1 x2 x3 x4 x5 x6 x7 S) (x1 : Int32) (x2 : Int32) (x3 : Int32) (x4 : Int32) (x5 : Int32) (x6 : Int32) (x7 : Int32) (A : q_St) (S : q_S), Rep ad nv md A S → aX8_areIn_b92 nv md Q1 k23 x1 x2 x3 x4 x5 x6 x7 A → wX8_areIn_b92 Q2 m23 (ad 128) x1 x2 x3 x4 x5 x6 x7 S := by
    intro k23 m23 ih23 x1 x2 x3 x4 x5 x6 x7 A S h ha
    unfold wX8_areIn_b92
    unfold aX8_areIn_b92 at ha
    exact j93 k23 _ ih23 x1 x2 x3 x4 x5 x6 x7 (0 : Int32) _ _ h ha
  have j23 : ∀ (k6 : Int32 → Int32 → Int32 → Int32 → Int32 → q_St → Prop) (m6 : Nat → Int32 → Int32 → Int32 → Int32 → Int32 → q_S → Prop) (ih6 : ∀ (x1 : Int32) (x2 : Int32) (x3 : Int32) (x4 : Int32) (x5 : Int32) (A : q_St) (S : q_S), Rep ad nv md A S → k6 x1 x2 x3 x4 x5 A → m6 (ad 128) x1 x2 x3 x4 x5 S) (n : Nat), ∀ (x1 : Int32) (x2 : Int32) (x3 : Int32) (x4 : Int32) (x5 : Int32) (x6 : Int32) (x7 : Int32) (A : q_St) (S : q_S), Rep ad nv md A S → alX8_areIn_b23 nv md Q1 k6 n x1 x2 x3 x4 x5 x6 x7 A → lX8_areIn_b23 Q2 m6 n (ad 128) x1 x2 x3 x4 x5 x6 x7 S := by
    intro k6 m6 ih6
    intro n
    induction n with
    | zero => intro x1 x2 x3 x4 x5 x6 x7 A S h ha; exact absurd ha (fun h => h)
    | succ n ih23 =>
      intro x1 x2 x3 x4 x5 x6 x7 A S h ha
      show wX8_areIn_b23 Q2 m6 (lX8_areIn_b23 Q2 m6 n) (ad 128) x1 x2 x3 x4 x5 x6 x7 S
      have ha : aX8_areIn_b23 nv md Q1 k6 (alX8_areIn_b23 nv md Q1 k6 n) x1 x2 x3 x4 x5 x6 x7 A := ha
      unfold wX8_areIn_b23
      unfold aX8_areIn_b23 at ha
      refine ⟨_, _, cX8 h, rfl, ?_⟩
      refine e_l h isaX8_many ha (fun ha => ?_)
      refine ⟨fun c_6 => ?_, fun c_6 => ?_⟩
      · replace ha := ha.1 c_6
        refine ⟨fun c_7 => ?_, fun c_7 => ?_⟩
        · replace ha := ha.1 c_7
          exact j190 k6 _ ih6 x1 x2 x3 x5 _ _ h ha
        · replace ha := ha.2 c_7
          refine ⟨fun c_8 => ?_, fun c_8 => ?_⟩
          · replace ha := ha.1 c_8
            exact j190 k6 _ ih6 x1 x2 x3 x5 _ _ h ha
          · replace ha := ha.2 c_8
            exact j191 k6 _ ih6 x1 x2 x3 x5 (1 : Int32) _ _ h ha
      · replace ha := ha.2 c_6
        refine ⟨_, _, cX8 h, rfl, ?_⟩
        refine e_l h isaX8_start ha (fun ha => ?_)
        refine ⟨_, _, cX8 h, rfl, ?_⟩
        refine e_l h isaX8_start ha (fun ha => ?_)
        refine ⟨fun c_9 => ?_, fun c_9 => ?_⟩
        · replace ha := ha.1 c_9
          exact j92 (alX8_areIn_b23 nv md Q1 k6 n) _ ih23 x1 x2 x3 x4 x5 x6 x7 _ _ h ha
        · replace ha := ha.2 c_9
          refine ⟨_, _, cX8 h, rfl, ?_⟩
          refine e_l h isaX8_length ha (fun ha => ?_)
          refine ⟨_, _, cX8 h, rfl, ?_⟩
          refine e_l h isaX8_length ha (fun ha => ?_)
          refine ⟨fun c_10 => ?_, fun c_10 => ?_⟩
          · replace ha := ha.1 c_10
            exact j92 (alX8_areIn_b23 nv md Q1 k6 n) _ ih23 x1 x2 x3 x4 x5 x6 x7 _ _ h ha
          · replace ha := ha.2 c_10
            exact j93 (alX8_areIn_b23 nv md Q1 k6 n) _ ih23 x1 x2 x3 x4 x5 x6 x7 (1 : Int32) _ _ h ha
  have j6 : ∀ (n : Nat), ∀ (x1 : Int32) (x2 : Int32) (x3 : Int32) (x4 : Int32) (x5 : Int32) (A : q_St) (S : q_S), Rep ad nv md A S → alX8_areIn_b6 nv md Q1 n x1 x2 x3 x4 x5 A → lX8_areIn_b6 Q2 n (ad 128) x1 x2 x3 x4 x5 S := by
    intro n
    induction n with
    | zero => intro x1 x2 x3 x4 x5 A S h ha; exact absurd ha (fun h => h)
    | succ n ih6 =>
      intro x1 x2 x3 x4 x5 A S h ha
      show wX8_areIn_b6 Q2 (lX8_areIn_b6 Q2 n) (ad 128) x1 x2 x3 x4 x5 S
      have ha : aX8_areIn_b6 nv md Q1 (alX8_areIn_b6 nv md Q1 n) x1 x2 x3 x4 x5 A := ha
      unfold wX8_areIn_b6
      unfold aX8_areIn_b6 at ha
      refine ⟨_, _, cX8 h, rfl, ?_⟩
      refine e_l h isaX8_many ha (fun ha => ?_)
      refine ⟨fun c_11 => ?_, fun c_11 => ?_⟩
      · replace ha := ha.1 c_11
        exact ⟨ha.1, hq _ _ _ h ha.2⟩
      · replace ha := ha.2 c_11
        exact j23 (alX8_areIn_b6 nv md Q1 n) _ ih6 q_fuel x1 x2 x3 x4 x5 (0 : Int32) (0 : Int32) _ _ h ha
  unfold wX8_areIn
  unfold aX8_areIn at ha
  refine ⟨⟨_, cX8 h⟩, ?_⟩
  exact j6 q_fuel x1 x2 x3 (1 : Int32) (0 : Int32) _ _ h ha
set_option maxHeartbeats 2000000 in
theorem EX8_condensedAt {ad : Nat → Nat} {nv : Nat} {md : Nat → Bool} {A : q_St} {S : q_S} {x1 : Int32} {x2 : Int32} {x3 : Int32} (h : Rep ad nv md A S) {Q1 : Int32 → q_St → Prop} {Q2 : Int32 → q_S → Prop} (ha : aX8_condensedAt nv md x1 x2 x3 Q1 A) (hq : ∀ (r : Int32) (A : q_St) (S : q_S), Rep ad nv md A S → Q1 r A → Q2 r S) : wX8_condensedAt (ad 128) x1 x2 x3 Q2 S := by
  have j109 : ∀ (x4 : Int32) (x5 : Int32) (A : q_St) (S : q_S), Rep ad nv md A S → aX8_condensedAt_b109 nv md Q1 x4 x5 A → wX8_condensedAt_b109 Q2 (ad 128) x4 x5 S := by
    intro x4 x5 A S h ha
    unfold wX8_condensedAt_b109
    unfold aX8_condensedAt_b109 at ha
    refine EX8_areIn h ha (fun v_2 A_1 S h ha => ?_)
    refine ⟨fun c_3 => ?_, fun c_3 => ?_⟩
    · replace ha := ha.1 c_3
      exact hq _ _ _ h ha
    · replace ha := ha.2 c_3
      refine EX8_areIn h ha (fun v_5 A_4 S h ha => ?_)
      refine ⟨fun c_6 => ?_, fun c_6 => ?_⟩
      · replace ha := ha.1 c_6
        exact hq _ _ _ h ha
      · replace ha := ha.2 c_6
        exact hq _ _ _ h ha
  have j36 : ∀ (x4 : Int32) (x5 : Int32) (A : q_St) (S : q_S), Rep ad nv md A S → aX8_condensedAt_b36 nv md Q1 x4 x5 A → wX8_condensedAt_b36 Q2 (ad 128) x4 x5 S := by
    intro x4 x5 A S h ha
    unfold wX8_condensedAt_b36
    unfold aX8_condensedAt_b36 at ha
    refine ⟨_, _, cX8 h, rfl, ?_⟩
    refine e_l h isaX8_many ha (fun ha => ?_)
    refine ⟨fun c_7 => ?_, fun c_7 => ?_⟩
    · replace ha := ha.1 c_7
      refine ⟨_, _, cX8 h, rfl, ?_⟩
      refine e_l h isaX8_many ha (fun ha => ?_)
      refine ⟨fun c_8 => ?_, fun c_8 => ?_⟩
      · replace ha := ha.1 c_8
        exact hq _ _ _ h ha
      · replace ha := ha.2 c_8
        exact hq _ _ _ h ha
    · replace ha := ha.2 c_7
      exact hq _ _ _ h ha
  unfold wX8_condensedAt
  unfold aX8_condensedAt at ha
  refine ⟨⟨_, cX8 h⟩, ?_⟩
  refine ⟨_, _, cX8 h, rfl, ?_⟩
  refine e_l h isaX8_many ha (fun ha => ?_)
  refine ⟨fun c_9 => ?_, fun c_9 => ?_⟩
  · replace ha := ha.1 c_9
    exact j36 (((40 : Int32) * x1) + x3) (((40 : Int32) * x2) + x3) _ _ h ha
  · replace ha := ha.2 c_9
    refine ⟨_, _, cX8 h, rfl, ?_⟩
    refine e_l h isaX8_many ha (fun ha => ?_)
    refine ⟨fun c_10 => ?_, fun c_10 => ?_⟩
    · replace ha := ha.1 c_10
      refine ⟨_, _, cX8 h, rfl, ?_⟩
      refine e_l h isaX8_many ha (fun ha => ?_)
      refine ⟨_, _, cX8 h, rfl, ?_⟩
      refine e_l h isaX8_many ha (fun ha => ?_)
      refine ⟨fun c_11 => ?_, fun c_11 => ?_⟩
      · replace ha := ha.1 c_11
        exact j109 (((40 : Int32) * x1) + x3) (((40 : Int32) * x2) + x3) _ _ h ha
      · replace ha := ha.2 c_11
        refine EX8_areIn h ha (fun v_13 A_12 S h ha => ?_)
        refine ⟨fun c_14 => ?_, fun c_14 => ?_⟩
        · replace ha := ha.1 c_14
          exact j109 (((40 : Int32) * x1) + x3) (((40 : Int32) * x2) + x3) _ _ h ha
        · replace ha := ha.2 c_14
          refine EX8_areIn h ha (fun v_16 A_15 S h ha => ?_)
          refine ⟨fun c_17 => ?_, fun c_17 => ?_⟩
          · replace ha := ha.1 c_17
            exact j109 (((40 : Int32) * x1) + x3) (((40 : Int32) * x2) + x3) _ _ h ha
          · replace ha := ha.2 c_17
            exact hq _ _ _ h ha
    · replace ha := ha.2 c_10
      exact j36 (((40 : Int32) * x1) + x3) (((40 : Int32) * x2) + x3) _ _ h ha
set_option maxHeartbeats 2000000 in
theorem EX8_condensed {ad : Nat → Nat} {nv : Nat} {md : Nat → Bool} {A : q_St} {S : q_S} {x1 : Int32} {x2 : Int32} {x3 : Int32} (h : Rep ad nv md A S) {Q1 : Int32 → q_St → Prop} {Q2 : Int32 → q_S → Prop} (ha : aX8_condensed nv md x1 x2 x3 Q1 A) (hq : ∀ (r : Int32) (A : q_St) (S : q_S), Rep ad nv md A S → Q1 r A → Q2 r S) : wX8_condensed (ad 128) x1 x2 x3 Q2 S := by
  unfold wX8_condensed
  unfold aX8_condensed at ha
  refine ⟨⟨_, cX8 h⟩, ?_⟩
  refine EX8_isVoice h ha (fun v_2 A_1 S h ha => ?_)
  refine ⟨fun c_3 => ?_, fun c_3 => ?_⟩
  · replace ha := ha.1 c_3
    exact hq _ _ _ h ha
  · replace ha := ha.2 c_3
    refine EX8_isVoice h ha (fun v_5 A_4 S h ha => ?_)
    refine ⟨fun c_6 => ?_, fun c_6 => ?_⟩
    · replace ha := ha.1 c_6
      exact hq _ _ _ h ha
    · replace ha := ha.2 c_6
      refine EX8_isBar h ha (fun v_8 A_7 S h ha => ?_)
      refine ⟨fun c_9 => ?_, fun c_9 => ?_⟩
      · replace ha := ha.1 c_9
        refine ⟨fun c_10 => ?_, fun c_10 => ?_⟩
        · replace ha := ha.1 c_10
          refine EX8_condensedAt h ha (fun v_12 A_11 S h ha => ?_)
          exact hq _ _ _ h ha
        · replace ha := ha.2 c_10
          exact hq _ _ _ h ha
      · replace ha := ha.2 c_9
        exact hq _ _ _ h ha
set_option maxHeartbeats 2000000 in
theorem EX8_together {ad : Nat → Nat} {nv : Nat} {md : Nat → Bool} {A : q_St} {S : q_S} {x1 : Int32} {x2 : Int32} (h : Rep ad nv md A S) {Q1 : Int32 → q_St → Prop} {Q2 : Int32 → q_S → Prop} (ha : aX8_together nv md x1 x2 Q1 A) (hq : ∀ (r : Int32) (A : q_St) (S : q_S), Rep ad nv md A S → Q1 r A → Q2 r S) : wX8_together (ad 128) x1 x2 Q2 S := by
  have j59 : ∀ (k32 : Int32 → Int32 → Int32 → Int32 → q_St → Prop) (m32 : Nat → Int32 → Int32 → Int32 → Int32 → q_S → Prop) (ih32 : ∀ (x1 : Int32) (x2 : Int32) (x3 : Int32) (x4 : Int32) (A : q_St) (S : q_S), Rep ad nv md A S → k32 x1 x2 x3 x4 A → m32 (ad 128) x1 x2 x3 x4 S) (x1 : Int32) (x2 : Int32) (x4 : Int32) (y0 : Int32) (y1 : Int32) (A : q_St) (S : q_S), Rep ad nv md A S → aX8_together_b59 nv md Q1 k32 x1 x2 x4 y0 y1 A → wX8_together_b59 Q2 m32 (ad 128) x1 x2 x4 y0 y1 S := by
    intro k32 m32 ih32 x1 x2 x4 y0 y1 A S h ha
    unfold wX8_together_b59
    unfold aX8_together_b59 at ha
    exact ih32 x1 x2 (y0 + y1) (x4 + (1 : Int32)) _ _ h ha
  have j32 : ∀ (n : Nat), ∀ (x1 : Int32) (x2 : Int32) (x3 : Int32) (x4 : Int32) (A : q_St) (S : q_S), Rep ad nv md A S → alX8_together_b32 nv md Q1 n x1 x2 x3 x4 A → lX8_together_b32 Q2 n (ad 128) x1 x2 x3 x4 S := by
    intro n
    induction n with
    | zero => intro x1 x2 x3 x4 A S h ha; exact absurd ha (fun h => h)
    | succ n ih32 =>
      intro x1 x2 x3 x4 A S h ha
      show wX8_together_b32 Q2 (lX8_together_b32 Q2 n) (ad 128) x1 x2 x3 x4 S
      have ha : aX8_together_b32 nv md Q1 (alX8_together_b32 nv md Q1 n) x1 x2 x3 x4 A := ha
      unfold wX8_together_b32
      unfold aX8_together_b32 at ha
      refine ⟨_, _, cX8 h, rfl, ?_⟩
      refine ⟨fun c_1 => ?_, fun c_1 => ?_⟩
      · replace ha := ha.1 c_1
        exact hq _ _ _ h ha
      · replace ha := ha.2 c_1
        refine EX8_condensedAt h ha (fun v_3 A_2 S h ha => ?_)
        refine ⟨fun c_4 => ?_, fun c_4 => ?_⟩
        · replace ha := ha.1 c_4
          exact j59 (alX8_together_b32 nv md Q1 n) _ ih32 x1 x2 x4 x3 (0 : Int32) _ _ h ha
        · replace ha := ha.2 c_4
          exact j59 (alX8_together_b32 nv md Q1 n) _ ih32 x1 x2 x4 x3 (1 : Int32) _ _ h ha
  unfold wX8_together
  unfold aX8_together at ha
  refine ⟨⟨_, cX8 h⟩, ?_⟩
  refine EX8_isVoice h ha (fun v_6 A_5 S h ha => ?_)
  refine ⟨fun c_7 => ?_, fun c_7 => ?_⟩
  · replace ha := ha.1 c_7
    exact hq _ _ _ h ha
  · replace ha := ha.2 c_7
    refine EX8_isVoice h ha (fun v_9 A_8 S h ha => ?_)
    refine ⟨fun c_10 => ?_, fun c_10 => ?_⟩
    · replace ha := ha.1 c_10
      refine ⟨fun c_11 => ?_, fun c_11 => ?_⟩
      · replace ha := ha.1 c_11
        exact j32 q_fuel x1 x2 (0 : Int32) (0 : Int32) _ _ h ha
      · replace ha := ha.2 c_11
        exact hq _ _ _ h ha
    · replace ha := ha.2 c_10
      exact hq _ _ _ h ha
set_option maxHeartbeats 2000000 in
theorem EX8_count {ad : Nat → Nat} {nv : Nat} {md : Nat → Bool} {A : q_St} {S : q_S} {x1 : Int32} (h : Rep ad nv md A S) {Q1 : Int32 → q_St → Prop} {Q2 : Int32 → q_S → Prop} (ha : aX8_count nv md x1 Q1 A) (hq : ∀ (r : Int32) (A : q_St) (S : q_S), Rep ad nv md A S → Q1 r A → Q2 r S) : wX8_count (ad 128) x1 Q2 S := by
  have j140 : ∀ (k118 : Int32 → Int32 → q_St → Prop) (m118 : Nat → Int32 → Int32 → q_S → Prop) (ih118 : ∀ (x2 : Int32) (x3 : Int32) (A : q_St) (S : q_S), Rep ad nv md A S → k118 x2 x3 A → m118 (ad 128) x2 x3 S) (x3 : Int32) (y0 : Int32) (y1 : Int32) (A : q_St) (S : q_S), Rep ad nv md A S → aX8_count_b140 nv md Q1 k118 x3 y0 y1 A → wX8_count_b140 Q2 m118 (ad 128) x3 y0 y1 S := by
    intro k118 m118 ih118 x3 y0 y1 A S h ha
    unfold wX8_count_b140
    unfold aX8_count_b140 at ha
    exact ih118 (y0 + y1) (x3 + (1 : Int32)) _ _ h ha
  have j118 : ∀ (n : Nat), ∀ (x2 : Int32) (x3 : Int32) (A : q_St) (S : q_S), Rep ad nv md A S → alX8_count_b118 nv md Q1 n x2 x3 A → lX8_count_b118 Q2 n (ad 128) x2 x3 S := by
    intro n
    induction n with
    | zero => intro x2 x3 A S h ha; exact absurd ha (fun h => h)
    | succ n ih118 =>
      intro x2 x3 A S h ha
      show wX8_count_b118 Q2 (lX8_count_b118 Q2 n) (ad 128) x2 x3 S
      have ha : aX8_count_b118 nv md Q1 (alX8_count_b118 nv md Q1 n) x2 x3 A := ha
      unfold wX8_count_b118
      unfold aX8_count_b118 at ha
      refine ⟨fun c_1 => ?_, fun c_1 => ?_⟩
      · replace ha := ha.1 c_1
        exact hq _ _ _ h ha
      · replace ha := ha.2 c_1
        refine ⟨_, _, cX8 h, rfl, ?_⟩
        refine e_lz h isaX8_hasMark ha (fun ha => ?_)
        refine ⟨fun c_2 => ?_, fun c_2 => ?_⟩
        · replace ha := ha.1 c_2
          exact j140 (alX8_count_b118 nv md Q1 n) _ ih118 x3 x2 (0 : Int32) _ _ h ha
        · replace ha := ha.2 c_2
          exact j140 (alX8_count_b118 nv md Q1 n) _ ih118 x3 x2 (1 : Int32) _ _ h ha
  have j99 : ∀ (k78 : Int32 → Int32 → q_St → Prop) (m78 : Nat → Int32 → Int32 → q_S → Prop) (ih78 : ∀ (x2 : Int32) (x3 : Int32) (A : q_St) (S : q_S), Rep ad nv md A S → k78 x2 x3 A → m78 (ad 128) x2 x3 S) (x3 : Int32) (y0 : Int32) (y1 : Int32) (A : q_St) (S : q_S), Rep ad nv md A S → aX8_count_b99 nv md Q1 k78 x3 y0 y1 A → wX8_count_b99 Q2 m78 (ad 128) x3 y0 y1 S := by
    intro k78 m78 ih78 x3 y0 y1 A S h ha
    unfold wX8_count_b99
    unfold aX8_count_b99 at ha
    exact ih78 (y0 + y1) (x3 + (1 : Int32)) _ _ h ha
  have j78 : ∀ (n : Nat), ∀ (x2 : Int32) (x3 : Int32) (A : q_St) (S : q_S), Rep ad nv md A S → alX8_count_b78 nv md Q1 n x2 x3 A → lX8_count_b78 Q2 n (ad 128) x2 x3 S := by
    intro n
    induction n with
    | zero => intro x2 x3 A S h ha; exact absurd ha (fun h => h)
    | succ n ih78 =>
      intro x2 x3 A S h ha
      show wX8_count_b78 Q2 (lX8_count_b78 Q2 n) (ad 128) x2 x3 S
      have ha : aX8_count_b78 nv md Q1 (alX8_count_b78 nv md Q1 n) x2 x3 A := ha
      unfold wX8_count_b78
      unfold aX8_count_b78 at ha
      refine ⟨fun c_3 => ?_, fun c_3 => ?_⟩
      · replace ha := ha.1 c_3
        exact hq _ _ _ h ha
      · replace ha := ha.2 c_3
        refine ⟨_, _, cX8 h, rfl, ?_⟩
        refine e_lz h isaX8_isMade ha (fun ha => ?_)
        refine ⟨fun c_4 => ?_, fun c_4 => ?_⟩
        · replace ha := ha.1 c_4
          exact j99 (alX8_count_b78 nv md Q1 n) _ ih78 x3 x2 (0 : Int32) _ _ h ha
        · replace ha := ha.2 c_4
          exact j99 (alX8_count_b78 nv md Q1 n) _ ih78 x3 x2 (1 : Int32) _ _ h ha
  have j52 : ∀ (n : Nat), ∀ (x2 : Int32) (x3 : Int32) (A : q_St) (S : q_S), Rep ad nv md A S → alX8_count_b52 nv md Q1 n x2 x3 A → lX8_count_b52 Q2 n (ad 128) x2 x3 S := by
    intro n
    induction n with
    | zero => intro x2 x3 A S h ha; exact absurd ha (fun h => h)
    | succ n ih52 =>
      intro x2 x3 A S h ha
      show wX8_count_b52 Q2 (lX8_count_b52 Q2 n) (ad 128) x2 x3 S
      have ha : aX8_count_b52 nv md Q1 (alX8_count_b52 nv md Q1 n) x2 x3 A := ha
      unfold wX8_count_b52
      unfold aX8_count_b52 at ha
      refine ⟨fun c_5 => ?_, fun c_5 => ?_⟩
      · replace ha := ha.1 c_5
        exact hq _ _ _ h ha
      · replace ha := ha.2 c_5
        refine ⟨_, _, cX8 h, rfl, ?_⟩
        refine e_l h isaX8_many ha (fun ha => ?_)
        exact ih52 (x2 + (A 132 x3.toNatClampNeg)) (x3 + (1 : Int32)) _ _ h ha
  unfold wX8_count
  unfold aX8_count at ha
  refine ⟨⟨_, cX8 h⟩, ?_⟩
  refine ⟨fun c => ?_, fun c => ?_, fun c => ?_, fun c => ?_, fun c => ?_, fun c => ?_, fun c => ?_⟩
  · replace ha := ha.1 c
    exact hq _ _ _ h ha
  · replace ha := ha.2.1 c
    refine ⟨_, _, cX8 h, rfl, ?_⟩
    exact hq _ _ _ h ha
  · replace ha := ha.2.2.1 c
    refine ⟨_, _, cX8 h, rfl, ?_⟩
    exact hq _ _ _ h ha
  · replace ha := ha.2.2.2.1 c
    exact j52 q_fuel (0 : Int32) (0 : Int32) _ _ h ha
  · replace ha := ha.2.2.2.2.1 c
    exact j78 q_fuel (0 : Int32) (0 : Int32) _ _ h ha
  · replace ha := ha.2.2.2.2.2.1 c
    refine EX8_lastNumber h ha (fun v_7 A_6 S h ha => ?_)
    exact hq _ _ _ h ha
  · replace ha := ha.2.2.2.2.2.2 c
    exact j118 q_fuel (0 : Int32) (0 : Int32) _ _ h ha
