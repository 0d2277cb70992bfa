set_option maxHeartbeats 2000000 in
theorem EX7_isWithin {ad : Nat → Nat} {nv : Nat} {md : Nat → Bool} {A : q_St} {S : q_S} {x0 : Int32} {x1 : Int32} {x2 : Int32} (h : Rep ad nv md A S) {Q1 : Int32 → q_St → Prop} {Q2 : Int32 → q_S → Prop} (ha : aX7_isWithin nv md x0 x1 x2 Q1 A) (hq : ∀ (r : Int32) (A : q_St) (S : q_S), Rep ad nv md A S → Q1 r A → Q2 r S) : wX7_isWithin x0 x1 x2 Q2 S := by
  unfold wX7_isWithin
  unfold aX7_isWithin at ha
  refine ⟨fun c_1 => ?_, fun c_1 => ?_⟩
  · replace ha := ha.1 c_1
    exact ⟨ha.1, hq _ _ _ h ha.2⟩
  · replace ha := ha.2 c_1
    refine ⟨fun c_2 => ?_, fun c_2 => ?_⟩
    · replace ha := ha.1 c_2
      exact ⟨ha.1, hq _ _ _ h ha.2⟩
    · replace ha := ha.2 c_2
      exact ⟨ha.1, hq _ _ _ h ha.2⟩
set_option maxHeartbeats 2000000 in
theorem EX3_clearFrom {ad : Nat → Nat} {nv : Nat} {md : Nat → Bool} {A : q_St} {S : q_S} {a0 : Nat} {x1 : Int32} {x2 : Int32} (h : Rep ad nv md A S) (va0 : q_NT nv md a0) {Q1 : q_St → Prop} {Q2 : q_S → Prop} (ha : aX3_clearFrom nv md a0 x1 x2 Q1 A) (hq : ∀ (A : q_St) (S : q_S), Rep ad nv md A S → Q1 A → Q2 S) : wX3_clearFrom (ad a0) x1 x2 Q2 S := by
  have j6 : ∀ (n : Nat), ∀ (a0 : Nat) (x2 : Int32) (x3 : Int32) (va0 : q_NT nv md a0) (A : q_St) (S : q_S), Rep ad nv md A S → alX3_clearFrom_b6 nv md Q1 n a0 x2 x3 A → lX3_clearFrom_b6 Q2 n (ad a0) x2 x3 S := by
    intro n
    induction n with
    | zero => intro a0 x2 x3 va0 A S h ha; exact absurd ha (fun h => h)
    | succ n ih6 =>
      intro a0 x2 x3 va0 A S h ha
      show wX3_clearFrom_b6 Q2 (lX3_clearFrom_b6 Q2 n) (ad a0) x2 x3 S
      have ha : aX3_clearFrom_b6 nv md Q1 (alX3_clearFrom_b6 nv md Q1 n) a0 x2 x3 A := ha
      unfold wX3_clearFrom_b6
      unfold aX3_clearFrom_b6 at ha
      refine ⟨fun c_1 => ?_, fun c_1 => ?_⟩
      · replace ha := ha.1 c_1
        exact hq _ _ h ha
      · replace ha := ha.2 c_1
        refine ⟨fun c_2 => ?_, fun c_2 => ?_⟩
        · replace ha := ha.1 c_2
          exact hq _ _ h ha
        · replace ha := ha.2 c_2
          refine ⟨_, _, cX3 h va0, rfl, ?_⟩
          refine e_s h (isaX3_sizes va0) ha (fun A_3 S h ha => ?_)
          exact ih6 a0 x2 (x3 + (1 : Int32)) va0 _ _ h ha
  unfold wX3_clearFrom
  unfold aX3_clearFrom at ha
  refine ⟨⟨_, cX3 h va0⟩, ?_⟩
  exact j6 q_fuel a0 x2 (if (0 : Int32) < x1 then x1 else (0 : Int32)) va0 _ _ h ha
set_option maxHeartbeats 2000000 in
theorem EX2_isPlace {ad : Nat → Nat} {nv : Nat} {md : Nat → Bool} {A : q_St} {S : q_S} {x0 : Int32} {x1 : Int32} (h : Rep ad nv md A S) {Q1 : Int32 → q_St → Prop} {Q2 : Int32 → q_S → Prop} (ha : aX2_isPlace nv md x0 x1 Q1 A) (hq : ∀ (r : Int32) (A : q_St) (S : q_S), Rep ad nv md A S → Q1 r A → Q2 r S) : wX2_isPlace x0 x1 Q2 S := by
  unfold wX2_isPlace
  unfold aX2_isPlace at ha
  refine ⟨fun c_1 => ?_, fun c_1 => ?_⟩
  · replace ha := ha.1 c_1
    exact ⟨ha.1, hq _ _ _ h ha.2⟩
  · replace ha := ha.2 c_1
    refine ⟨fun c_2 => ?_, fun c_2 => ?_⟩
    · replace ha := ha.1 c_2
      exact ⟨ha.1, hq _ _ _ h ha.2⟩
    · replace ha := ha.2 c_2
      refine ⟨fun c_3 => ?_, fun c_3 => ?_⟩
      · replace ha := ha.1 c_3
        exact ⟨ha.1, hq _ _ _ h ha.2⟩
      · replace ha := ha.2 c_3
        refine ⟨fun c_4 => ?_, fun c_4 => ?_⟩
        · replace ha := ha.1 c_4
          exact ⟨ha.1, hq _ _ _ h ha.2⟩
        · replace ha := ha.2 c_4
          exact ⟨ha.1, hq _ _ _ h ha.2⟩
set_option maxHeartbeats 2000000 in
theorem EX2_replace {ad : Nat → Nat} {nv : Nat} {md : Nat → Bool} {A : q_St} {S : q_S} {x1 : Int32} {x2 : Int32} {x3 : Int32} (h : Rep ad nv md A S) {Q1 : Int32 → q_St → Prop} {Q2 : Int32 → q_S → Prop} (ha : aX2_replace nv md x1 x2 x3 Q1 A) (hq : ∀ (r : Int32) (A : q_St) (S : q_S), Rep ad nv md A S → Q1 r A → Q2 r S) : wX2_replace (ad 3) x1 x2 x3 Q2 S := by
  unfold wX2_replace
  unfold aX2_replace at ha
  refine ⟨⟨_, cX2 h⟩, ?_⟩
  refine EX2_isPlace h ha (fun v_2 A_1 S h ha => ?_)
  refine ⟨fun c_3 => ?_, fun c_3 => ?_⟩
  · replace ha := ha.1 c_3
    refine ⟨_, _, cX2 h, rfl, ?_⟩
    refine e_l h isaX2_held ha (fun ha => ?_)
    refine ⟨_, _, cX2 h, rfl, ?_⟩
    refine e_s h isaX2_held ha (fun A_4 S h ha => ?_)
    exact hq _ _ _ h ha
  · replace ha := ha.2 c_3
    exact hq _ _ _ h ha
set_option maxHeartbeats 2000000 in
theorem EX2_clearFrom {ad : Nat → Nat} {nv : Nat} {md : Nat → Bool} {A : q_St} {S : q_S} {x1 : Int32} {x2 : Int32} (h : Rep ad nv md A S) {Q1 : q_St → Prop} {Q2 : q_S → Prop} (ha : aX2_clearFrom nv md x1 x2 Q1 A) (hq : ∀ (A : q_St) (S : q_S), Rep ad nv md A S → Q1 A → Q2 S) : wX2_clearFrom (ad 3) x1 x2 Q2 S := by
  have j20 : ∀ (k6 : Int32 → Int32 → q_St → Prop) (m6 : Nat → Int32 → Int32 → q_S → Prop) (ih6 : ∀ (x2 : Int32) (x3 : Int32) (A : q_St) (S : q_S), Rep ad nv md A S → k6 x2 x3 A → m6 (ad 3) x2 x3 S) (n : Nat), ∀ (x2 : Int32) (x3 : Int32) (x4 : Int32) (A : q_St) (S : q_S), Rep ad nv md A S → alX2_clearFrom_b20 nv md Q1 k6 n x2 x3 x4 A → lX2_clearFrom_b20 Q2 m6 n (ad 3) x2 x3 x4 S := by
    intro k6 m6 ih6
    intro n
    induction n with
    | zero => intro x2 x3 x4 A S h ha; exact absurd ha (fun h => h)
    | succ n ih20 =>
      intro x2 x3 x4 A S h ha
      show wX2_clearFrom_b20 Q2 m6 (lX2_clearFrom_b20 Q2 m6 n) (ad 3) x2 x3 x4 S
      have ha : aX2_clearFrom_b20 nv md Q1 k6 (alX2_clearFrom_b20 nv md Q1 k6 n) x2 x3 x4 A := ha
      unfold wX2_clearFrom_b20
      unfold aX2_clearFrom_b20 at ha
      refine ⟨fun c_1 => ?_, fun c_1 => ?_⟩
      · replace ha := ha.1 c_1
        exact ih6 x2 (x3 + (1 : Int32)) _ _ h ha
      · replace ha := ha.2 c_1
        refine EX2_replace h ha (fun v_3 A_2 S h ha => ?_)
        exact ih20 x2 x3 (x4 + (1 : Int32)) _ _ h ha
  have j6 : ∀ (n : Nat), ∀ (x2 : Int32) (x3 : Int32) (A : q_St) (S : q_S), Rep ad nv md A S → alX2_clearFrom_b6 nv md Q1 n x2 x3 A → lX2_clearFrom_b6 Q2 n (ad 3) x2 x3 S := by
    intro n
    induction n with
    | zero => intro x2 x3 A S h ha; exact absurd ha (fun h => h)
    | succ n ih6 =>
      intro x2 x3 A S h ha
      show wX2_clearFrom_b6 Q2 (lX2_clearFrom_b6 Q2 n) (ad 3) x2 x3 S
      have ha : aX2_clearFrom_b6 nv md Q1 (alX2_clearFrom_b6 nv md Q1 n) x2 x3 A := ha
      unfold wX2_clearFrom_b6
      unfold aX2_clearFrom_b6 at ha
      refine ⟨fun c_4 => ?_, fun c_4 => ?_⟩
      · replace ha := ha.1 c_4
        exact hq _ _ h ha
      · replace ha := ha.2 c_4
        refine ⟨fun c_5 => ?_, fun c_5 => ?_⟩
        · replace ha := ha.1 c_5
          exact hq _ _ h ha
        · replace ha := ha.2 c_5
          exact j20 (alX2_clearFrom_b6 nv md Q1 n) _ ih6 q_fuel x2 x3 (0 : Int32) _ _ h ha
  unfold wX2_clearFrom
  unfold aX2_clearFrom at ha
  refine ⟨⟨_, cX2 h⟩, ?_⟩
  exact j6 q_fuel x2 (if (0 : Int32) < x1 then x1 else (0 : Int32)) _ _ h ha
set_option maxHeartbeats 2000000 in
theorem EX5_resize {ad : Nat → Nat} {nv : Nat} {md : Nat → Bool} {A : q_St} {S : q_S} {x1 : Int32} (h : Rep ad nv md A S) {Q1 : Int32 → q_St → Prop} {Q2 : Int32 → q_S → Prop} (ha : aX5_resize nv md x1 Q1 A) (hq : ∀ (r : Int32) (A : q_St) (S : q_S), Rep ad nv md A S → Q1 r A → Q2 r S) : wX5_resize (ad 1) x1 Q2 S := by
  have j35 : ∀ (k7 : Int32 → Int32 → Int32 → q_St → Prop) (m7 : Nat → Int32 → Int32 → Int32 → q_S → Prop) (ih7 : ∀ (x1 : Int32) (x2 : Int32) (x3 : Int32) (A : q_St) (S : q_S), Rep ad nv md A S → k7 x1 x2 x3 A → m7 (ad 1) x1 x2 x3 S) (x1 : Int32) (x2 : Int32) (x3 : Int32) (A : q_St) (S : q_S), Rep ad nv md A S → aX5_resize_b35 nv md Q1 k7 x1 x2 x3 A → wX5_resize_b35 Q2 m7 (ad 1) x1 x2 x3 S := by
    intro k7 m7 ih7 x1 x2 x3 A S h ha
    unfold wX5_resize_b35
    unfold aX5_resize_b35 at ha
    exact ih7 x1 x2 (x3 + (1 : Int32)) _ _ h ha
  have j7 : ∀ (n : Nat), ∀ (x1 : Int32) (x2 : Int32) (x3 : Int32) (A : q_St) (S : q_S), Rep ad nv md A S → alX5_resize_b7 nv md Q1 n x1 x2 x3 A → lX5_resize_b7 Q2 n (ad 1) x1 x2 x3 S := by
    intro n
    induction n with
    | zero => intro x1 x2 x3 A S h ha; exact absurd ha (fun h => h)
    | succ n ih7 =>
      intro x1 x2 x3 A S h ha
      show wX5_resize_b7 Q2 (lX5_resize_b7 Q2 n) (ad 1) x1 x2 x3 S
      have ha : aX5_resize_b7 nv md Q1 (alX5_resize_b7 nv md Q1 n) x1 x2 x3 A := ha
      unfold wX5_resize_b7
      unfold aX5_resize_b7 at ha
      refine ⟨fun c_1 => ?_, fun c_1 => ?_⟩
      · replace ha := ha.1 c_1
        refine ⟨_, _, cX5 h, rfl, ?_⟩
        refine EX2_clearFrom h ha (fun A_2 S h ha => ?_)
        refine e_pX5_3 h ha (fun A_3 S h ha => ?_)
        exact hq _ _ _ h ha
      · replace ha := ha.2 c_1
        refine EX5_voiceAt h ha (fun o_5 A_4 S wo_5 h ha => ?_)
        refine ⟨fun c_7 => ?_, fun _ c_7 => ?_⟩
        · replace ha := ha.1 (Option.map_eq_none_iff.mp c_7)
          exact j35 (alX5_resize_b7 nv md Q1 n) _ ih7 x1 x2 x3 _ _ h ha
        · obtain ⟨a_6, dc_7, rfl⟩ := Option.map_eq_some_iff.mp c_7
          replace ha := ha.2 a_6 dc_7
          have va_6 := wo_5 a_6 dc_7
          refine ⟨_, _, cX6 h va_6, rfl, ?_⟩
          refine EX3_clearFrom h (q_nv va_6) ha (fun A_8 S h ha => ?_)
          exact j35 (alX5_resize_b7 nv md Q1 n) _ ih7 x1 x2 x3 _ _ h ha
  unfold wX5_resize
  unfold aX5_resize at ha
  refine ⟨⟨_, cX5 h⟩, ?_⟩
  refine ⟨_, _, cX5 h, rfl, ?_⟩
  exact j7 q_fuel x1 (A 1 3) (0 : Int32) _ _ h ha
set_option maxHeartbeats 2000000 in
theorem EX7_bars {ad : Nat → Nat} {nv : Nat} {md : Nat → Bool} {A : q_St} {S : q_S} {x1 : Int32} (h : Rep ad nv md A S) {Q1 : Int32 → q_St → Prop} {Q2 : Int32 → q_S → Prop} (ha : aX7_bars nv md x1 Q1 A) (hq : ∀ (r : Int32) (A : q_St) (S : q_S), Rep ad nv md A S → Q1 r A → Q2 r S) : wX7_bars (ad 0) x1 Q2 S := by
  unfold wX7_bars
  unfold aX7_bars at ha
  refine ⟨⟨_, cX7 h⟩, ?_⟩
  refine EX7_isWithin h ha (fun v_2 A_1 S h ha => ?_)
  refine ⟨fun c_3 => ?_, fun c_3 => ?_⟩
  · replace ha := ha.1 c_3
    refine ⟨_, _, cX7 h, rfl, ?_⟩
    refine EX5_resize h ha (fun v_5 A_4 S h ha => ?_)
    exact hq _ _ _ h ha
  · replace ha := ha.2 c_3
    exact hq _ _ _ h ha
set_option maxHeartbeats 2000000 in
theorem EX5_hasBar {ad : Nat → Nat} {nv : Nat} {md : Nat → Bool} {A : q_St} {S : q_S} {x1 : Int32} (h : Rep ad nv md A S) {Q1 : Int32 → q_St → Prop} {Q2 : Int32 → q_S → Prop} (ha : aX5_hasBar nv md x1 Q1 A) (hq : ∀ (r : Int32) (A : q_St) (S : q_S), Rep ad nv md A S → Q1 r A → Q2 r S) : wX5_hasBar (ad 1) x1 Q2 S := by
  unfold wX5_hasBar
  unfold aX5_hasBar at ha
  refine ⟨⟨_, cX5 h⟩, ?_⟩
  refine ⟨fun c_1 => ?_, fun c_1 => ?_⟩
  · replace ha := ha.1 c_1
    exact ⟨ha.1, hq _ _ _ h ha.2⟩
  · replace ha := ha.2 c_1
    refine ⟨_, _, cX5 h, rfl, ?_⟩
    refine ⟨fun c_2 => ?_, fun c_2 => ?_⟩
    · replace ha := ha.1 c_2
      exact ⟨ha.1, hq _ _ _ h ha.2⟩
    · replace ha := ha.2 c_2
      exact ⟨ha.1, hq _ _ _ h ha.2⟩
set_option maxHeartbeats 2000000 in
theorem EJ9_floorMod_7cf53 {ad : Nat → Nat} {nv : Nat} {md : Nat → Bool} {A : q_St} {S : q_S} {x0 : Int32} {x1 : Int32} (h : Rep ad nv md A S) {Q1 : Int32 → q_St → Prop} {Q2 : Int32 → q_S → Prop} (ha : aJ9_floorMod_7cf53 x0 x1 Q1 A) (hq : ∀ (r : Int32) (A : q_St) (S : q_S), Rep ad nv md A S → Q1 r A → Q2 r S) : wJ9_floorMod_7cf53 x0 x1 Q2 S := by
  unfold wJ9_floorMod_7cf53
  unfold aJ9_floorMod_7cf53 at ha
  refine ⟨ha.1, ?_⟩
  replace ha := ha.2
  refine ⟨fun c_1 => ?_, fun c_1 => ?_⟩
  · replace ha := ha.1 c_1
    exact hq _ _ _ h ha
  · replace ha := ha.2 c_1
    refine ⟨fun c_2 => ?_, fun c_2 => ?_⟩
    · replace ha := ha.1 c_2
      exact hq _ _ _ h ha
    · replace ha := ha.2 c_2
      exact hq _ _ _ h ha
set_option maxHeartbeats 2000000 in
theorem EX7_isNote {ad : Nat → Nat} {nv : Nat} {md : Nat → Bool} {A : q_St} {S : q_S} {x0 : Int32} {x1 : Int32} {x2 : Int32} {x3 : Int32} (h : Rep ad nv md A S) {Q1 : Int32 → q_St → Prop} {Q2 : Int32 → q_S → Prop} (ha : aX7_isNote nv md x0 x1 x2 x3 Q1 A) (hq : ∀ (r : Int32) (A : q_St) (S : q_S), Rep ad nv md A S → Q1 r A → Q2 r S) : wX7_isNote x0 x1 x2 x3 Q2 S := by
  unfold wX7_isNote
  unfold aX7_isNote at ha
  refine EX7_isWithin h ha (fun v_2 A_1 S h ha => ?_)
  refine ⟨fun c_3 => ?_, fun c_3 => ?_⟩
  · replace ha := ha.1 c_3
    exact ⟨ha.1, hq _ _ _ h ha.2⟩
  · replace ha := ha.2 c_3
    refine EX7_isWithin h ha (fun v_5 A_4 S h ha => ?_)
    refine ⟨fun c_6 => ?_, fun c_6 => ?_⟩
    · replace ha := ha.1 c_6
      exact ⟨ha.1, hq _ _ _ h ha.2⟩
    · replace ha := ha.2 c_6
      refine EX7_isWithin h ha (fun v_8 A_7 S h ha => ?_)
      refine ⟨fun c_9 => ?_, fun c_9 => ?_⟩
      · replace ha := ha.1 c_9
        exact ⟨ha.1, hq _ _ _ h ha.2⟩
      · replace ha := ha.2 c_9
        refine EX7_isWithin h ha (fun v_11 A_10 S h ha => ?_)
        refine ⟨fun c_12 => ?_, fun c_12 => ?_⟩
        · replace ha := ha.1 c_12
          exact ⟨ha.1, hq _ _ _ h ha.2⟩
        · replace ha := ha.2 c_12
          refine EJ9_floorMod_7cf53 h ha (fun v_14 A_13 S h ha => ?_)
          refine ⟨fun c_15 => ?_, fun c_15 => ?_⟩
          · replace ha := ha.1 c_15
            exact ⟨ha.1, hq _ _ _ h ha.2⟩
          · replace ha := ha.2 c_15
            exact ⟨ha.1, hq _ _ _ h ha.2⟩
set_option maxHeartbeats 2000000 in
theorem EX3_size {ad : Nat → Nat} {nv : Nat} {md : Nat → Bool} {A : q_St} {S : q_S} {a0 : Nat} {x1 : Int32} (h : Rep ad nv md A S) (va0 : q_NT nv md a0) {Q1 : Int32 → q_St → Prop} {Q2 : Int32 → q_S → Prop} (ha : aX3_size nv md a0 x1 Q1 A) (hq : ∀ (r : Int32) (A : q_St) (S : q_S), Rep ad nv md A S → Q1 r A → Q2 r S) : wX3_size (ad a0) x1 Q2 S := by
  unfold wX3_size
  unfold aX3_size at ha
  refine ⟨⟨_, cX3 h va0⟩, ?_⟩
  refine ⟨fun c_1 => ?_, fun c_1 => ?_⟩
  · replace ha := ha.1 c_1
    exact hq _ _ _ h ha
  · replace ha := ha.2 c_1
    refine ⟨fun c_2 => ?_, fun c_2 => ?_⟩
    · replace ha := ha.1 c_2
      exact hq _ _ _ h ha
    · replace ha := ha.2 c_2
      refine ⟨_, _, cX3 h va0, rfl, ?_⟩
      refine e_l h (isaX3_sizes va0) ha (fun ha => ?_)
      exact hq _ _ _ h ha
set_option maxHeartbeats 2000000 in
theorem EX3_figure {ad : Nat → Nat} {nv : Nat} {md : Nat → Bool} {A : q_St} {S : q_S} {a0 : Nat} {x1 : Int32} {x2 : Int32} {x3 : Int32} (h : Rep ad nv md A S) (va0 : q_NT nv md a0) {Q1 : Int32 → q_St → Prop} {Q2 : Int32 → q_S → Prop} (ha : aX3_figure nv md a0 x1 x2 x3 Q1 A) (hq : ∀ (r : Int32) (A : q_St) (S : q_S), Rep ad nv md A S → Q1 r A → Q2 r S) : wX3_figure (ad a0) x1 x2 x3 Q2 S := by
  unfold wX3_figure
  unfold aX3_figure at ha
  refine ⟨⟨_, cX3 h va0⟩, ?_⟩
  refine ⟨fun c_1 => ?_, fun c_1 => ?_⟩
  · replace ha := ha.1 c_1
    exact hq _ _ _ h ha
  · replace ha := ha.2 c_1
    refine ⟨fun c_2 => ?_, fun c_2 => ?_⟩
    · replace ha := ha.1 c_2
      exact hq _ _ _ h ha
    · replace ha := ha.2 c_2
      refine ⟨fun c_3 => ?_, fun c_3 => ?_⟩
      · replace ha := ha.1 c_3
        exact hq _ _ _ h ha
      · replace ha := ha.2 c_3
        refine ⟨_, _, cX3 h va0, rfl, ?_⟩
        refine e_l h (isaX3_sizes va0) ha (fun ha => ?_)
        refine ⟨fun c_4 => ?_, fun c_4 => ?_⟩
        · replace ha := ha.1 c_4
          exact hq _ _ _ h ha
        · replace ha := ha.2 c_4
          refine ⟨fun c_5 => ?_, fun c_5 => ?_⟩
          · replace ha := ha.1 c_5
            exact hq _ _ _ h ha
          · replace ha := ha.2 c_5
            refine ⟨fun c_6 => ?_, fun c_6 => ?_⟩
            · replace ha := ha.1 c_6
              refine ⟨_, _, cX3 h va0, rfl, ?_⟩
              refine e_l h (isaX3_figures va0) ha (fun ha => ?_)
              exact hq _ _ _ h ha
            · replace ha := ha.2 c_6
              exact hq _ _ _ h ha
set_option maxHeartbeats 2000000 in
theorem EX3_hasAt {ad : Nat → Nat} {nv : Nat} {md : Nat → Bool} {A : q_St} {S : q_S} {a0 : Nat} {x1 : Int32} {x2 : Int32} {x3 : Int32} (h : Rep ad nv md A S) (va0 : q_NT nv md a0) {Q1 : Int32 → q_St → Prop} {Q2 : Int32 → q_S → Prop} (ha : aX3_hasAt nv md a0 x1 x2 x3 Q1 A) (hq : ∀ (r : Int32) (A : q_St) (S : q_S), Rep ad nv md A S → Q1 r A → Q2 r S) : wX3_hasAt (ad a0) x1 x2 x3 Q2 S := by
  have j39 : ∀ (k3 : Nat → Int32 → Int32 → Int32 → Int32 → q_St → Prop) (m3 : Nat → Int32 → Int32 → Int32 → Int32 → q_S → Prop) (ih3 : ∀ (a0 : Nat) (x1 : Int32) (x2 : Int32) (x3 : Int32) (x4 : Int32) (va0 : q_NT nv md a0) (A : q_St) (S : q_S), Rep ad nv md A S → k3 a0 x1 x2 x3 x4 A → m3 (ad a0) x1 x2 x3 x4 S) (a0 : Nat) (x1 : Int32) (x2 : Int32) (x3 : Int32) (x4 : Int32) (va0 : q_NT nv md a0) (A : q_St) (S : q_S), Rep ad nv md A S → aX3_hasAt_b39 nv md Q1 k3 a0 x1 x2 x3 x4 A → wX3_hasAt_b39 Q2 m3 (ad a0) x1 x2 x3 x4 S := by
    intro k3 m3 ih3 a0 x1 x2 x3 x4 va0 A S h ha
    unfold wX3_hasAt_b39
    unfold aX3_hasAt_b39 at ha
    exact ih3 a0 x1 x2 x3 (x4 + (1 : Int32)) va0 _ _ h ha
  have j3 : ∀ (n : Nat), ∀ (a0 : Nat) (x1 : Int32) (x2 : Int32) (x3 : Int32) (x4 : Int32) (va0 : q_NT nv md a0) (A : q_St) (S : q_S), Rep ad nv md A S → alX3_hasAt_b3 nv md Q1 n a0 x1 x2 x3 x4 A → lX3_hasAt_b3 Q2 n (ad a0) x1 x2 x3 x4 S := by
    intro n
    induction n with
    | zero => intro a0 x1 x2 x3 x4 va0 A S h ha; exact absurd ha (fun h => h)
    | succ n ih3 =>
      intro a0 x1 x2 x3 x4 va0 A S h ha
      show wX3_hasAt_b3 Q2 (lX3_hasAt_b3 Q2 n) (ad a0) x1 x2 x3 x4 S
      have ha : aX3_hasAt_b3 nv md Q1 (alX3_hasAt_b3 nv md Q1 n) a0 x1 x2 x3 x4 A := ha
      unfold wX3_hasAt_b3
      unfold aX3_hasAt_b3 at ha
      refine EX3_size h va0 ha (fun v_2 A_1 S h ha => ?_)
      refine ⟨fun c_3 => ?_, fun c_3 => ?_⟩
      · replace ha := ha.1 c_3
        exact ⟨ha.1, hq _ _ _ h ha.2⟩
      · replace ha := ha.2 c_3
        refine EX3_figure h va0 ha (fun v_5 A_4 S h ha => ?_)
        refine ⟨fun c_6 => ?_, fun c_6 => ?_⟩
        · replace ha := ha.1 c_6
          exact j39 (alX3_hasAt_b3 nv md Q1 n) _ ih3 a0 x1 x2 x3 x4 va0 _ _ h ha
        · replace ha := ha.2 c_6
          refine EX3_figure h va0 ha (fun v_8 A_7 S h ha => ?_)
          refine ⟨fun c_9 => ?_, fun c_9 => ?_⟩
          · replace ha := ha.1 c_9
            exact j39 (alX3_hasAt_b3 nv md Q1 n) _ ih3 a0 x1 x2 x3 x4 va0 _ _ h ha
          · replace ha := ha.2 c_9
            exact ⟨ha.1, hq _ _ _ h ha.2⟩
  unfold wX3_hasAt
  unfold aX3_hasAt at ha
  refine ⟨⟨_, cX3 h va0⟩, ?_⟩
  exact j3 q_fuel a0 x1 x2 x3 (0 : Int32) va0 _ _ h ha
set_option maxHeartbeats 2000000 in
theorem EX3_isBehind {ad : Nat → Nat} {nv : Nat} {md : Nat → Bool} {A : q_St} {S : q_S} {a0 : Nat} {x1 : Int32} {x2 : Int32} {x3 : Int32} {x4 : Int32} (h : Rep ad nv md A S) (va0 : q_NT nv md a0) {Q1 : Int32 → q_St → Prop} {Q2 : Int32 → q_S → Prop} (ha : aX3_isBehind nv md a0 x1 x2 x3 x4 Q1 A) (hq : ∀ (r : Int32) (A : q_St) (S : q_S), Rep ad nv md A S → Q1 r A → Q2 r S) : wX3_isBehind (ad a0) x1 x2 x3 x4 Q2 S := by
  have j33 : ∀ (A : q_St) (S : q_S), Rep ad nv md A S → aX3_isBehind_b33 nv md Q1 A → wX3_isBehind_b33 Q2 S := by
    intro A S h ha
    unfold wX3_isBehind_b33
    unfold aX3_isBehind_b33 at ha
    exact ⟨ha.1, hq _ _ _ h ha.2⟩
  unfold wX3_isBehind
  unfold aX3_isBehind at ha
  refine ⟨⟨_, cX3 h va0⟩, ?_⟩
  refine EX3_figure h va0 ha (fun v_2 A_1 S h ha => ?_)
  refine ⟨fun c_3 => ?_, fun c_3 => ?_⟩
  · replace ha := ha.1 c_3
    exact j33 _ _ h ha
  · replace ha := ha.2 c_3
    refine ⟨fun c_4 => ?_, fun c_4 => ?_⟩
    · replace ha := ha.1 c_4
      exact ⟨ha.1, hq _ _ _ h ha.2⟩
    · replace ha := ha.2 c_4
      refine EX3_figure h va0 ha (fun v_6 A_5 S h ha => ?_)
      refine ⟨fun c_7 => ?_, fun c_7 => ?_⟩
      · replace ha := ha.1 c_7
        exact ⟨ha.1, hq _ _ _ h ha.2⟩
      · replace ha := ha.2 c_7
        exact j33 _ _ h ha
set_option maxHeartbeats 2000000 in
theorem EX3_placeOf {ad : Nat → Nat} {nv : Nat} {md : Nat → Bool} {A : q_St} {S : q_S} {x0 : Int32} {x1 : Int32} (h : Rep ad nv md A S) {Q1 : Int32 → q_St → Prop} {Q2 : Int32 → q_S → Prop} (ha : aX3_placeOf nv md x0 x1 Q1 A) (hq : ∀ (r : Int32) (A : q_St) (S : q_S), Rep ad nv md A S → Q1 r A → Q2 r S) : wX3_placeOf x0 x1 Q2 S := by
  unfold wX3_placeOf
  unfold aX3_placeOf at ha
  exact hq _ _ _ h ha
set_option maxHeartbeats 2000000 in
theorem EX3_insert {ad : Nat → Nat} {nv : Nat} {md : Nat → Bool} {A : q_St} {S : q_S} {a0 : Nat} {x1 : Int32} {x2 : Int32} {x3 : Int32} {x4 : Int32} {x5 : Int32} (h : Rep ad nv md A S) (va0 : q_NT nv md a0) {Q1 : q_St → Prop} {Q2 : q_S → Prop} (ha : aX3_insert nv md a0 x1 x2 x3 x4 x5 Q1 A) (hq : ∀ (A : q_St) (S : q_S), Rep ad nv md A S → Q1 A → Q2 S) : wX3_insert (ad a0) x1 x2 x3 x4 x5 Q2 S := by
  have j81 : ∀ (a0 : Nat) (x1 : Int32) (x2 : Int32) (x3 : Int32) (x4 : Int32) (x5 : Int32) (x6 : Int32) (x7 : Int32) (va0 : q_NT nv md a0) (A : q_St) (S : q_S), Rep ad nv md A S → aX3_insert_b81 nv md Q1 a0 x1 x2 x3 x4 x5 x6 x7 A → wX3_insert_b81 Q2 (ad a0) x1 x2 x3 x4 x5 x6 x7 S := by
    intro a0 x1 x2 x3 x4 x5 x6 x7 va0 A S h ha
    unfold wX3_insert_b81
    unfold aX3_insert_b81 at ha
    refine EX3_placeOf h ha (fun v_2 A_1 S h ha => ?_)
    refine ⟨_, _, cX3 h va0, rfl, ?_⟩
    refine e_s h (isaX3_figures va0) ha (fun A_3 S h ha => ?_)
    refine ⟨_, _, cX3 h va0, rfl, ?_⟩
    refine e_s h (isaX3_figures va0) ha (fun A_4 S h ha => ?_)
    refine ⟨_, _, cX3 h va0, rfl, ?_⟩
    refine e_s h (isaX3_figures va0) ha (fun A_5 S h ha => ?_)
    refine ⟨_, _, cX3 h va0, rfl, ?_⟩
    refine e_s h (isaX3_figures va0) ha (fun A_6 S h ha => ?_)
    refine ⟨_, _, cX3 h va0, rfl, ?_⟩
    refine e_s h (isaX3_sizes va0) ha (fun A_7 S h ha => ?_)
    exact hq _ _ h ha
  have j29 : ∀ (n : Nat), ∀ (a0 : Nat) (x1 : Int32) (x2 : Int32) (x3 : Int32) (x4 : Int32) (x5 : Int32) (x6 : Int32) (x7 : Int32) (va0 : q_NT nv md a0) (A : q_St) (S : q_S), Rep ad nv md A S → alX3_insert_b29 nv md Q1 n a0 x1 x2 x3 x4 x5 x6 x7 A → lX3_insert_b29 Q2 n (ad a0) x1 x2 x3 x4 x5 x6 x7 S := by
    intro n
    induction n with
    | zero => intro a0 x1 x2 x3 x4 x5 x6 x7 va0 A S h ha; exact absurd ha (fun h => h)
    | succ n ih29 =>
      intro a0 x1 x2 x3 x4 x5 x6 x7 va0 A S h ha
      show wX3_insert_b29 Q2 (lX3_insert_b29 Q2 n) (ad a0) x1 x2 x3 x4 x5 x6 x7 S
      have ha : aX3_insert_b29 nv md Q1 (alX3_insert_b29 nv md Q1 n) a0 x1 x2 x3 x4 x5 x6 x7 A := ha
      unfold wX3_insert_b29
      unfold aX3_insert_b29 at ha
      refine ⟨fun c_8 => ?_, fun c_8 => ?_⟩
      · replace ha := ha.1 c_8
        exact j81 a0 x1 x2 x3 x4 x5 x6 x7 va0 _ _ h ha
      · replace ha := ha.2 c_8
        refine EX3_isBehind h va0 ha (fun v_10 A_9 S h ha => ?_)
        refine ⟨fun c_11 => ?_, fun c_11 => ?_⟩
        · replace ha := ha.1 c_11
          exact j81 a0 x1 x2 x3 x4 x5 x6 x7 va0 _ _ h ha
        · replace ha := ha.2 c_11
          refine ⟨_, _, cX3 h va0, rfl, ?_⟩
          refine EX3_placeOf h ha (fun v_13 A_12 S h ha => ?_)
          refine ⟨_, _, cX3 h va0, rfl, ?_⟩
          refine EX3_placeOf h ha (fun v_15 A_14 S h ha => ?_)
          refine e_cp h (isaX3_figures va0) ha (fun A_16 S h ha => ?_)
          exact ih29 a0 x1 x2 x3 x4 x5 x6 (x7 + (-1 : Int32)) va0 _ _ h ha
  unfold wX3_insert
  unfold aX3_insert at ha
  refine ⟨⟨_, cX3 h va0⟩, ?_⟩
  refine EX3_size h va0 ha (fun v_18 A_17 S h ha => ?_)
  refine ⟨fun c_19 => ?_, fun c_19 => ?_⟩
  · replace ha := ha.1 c_19
    exact hq _ _ h ha
  · replace ha := ha.2 c_19
    refine ⟨fun c_20 => ?_, fun c_20 => ?_⟩
    · replace ha := ha.1 c_20
      exact hq _ _ h ha
    · replace ha := ha.2 c_20
      refine ⟨fun c_21 => ?_, fun c_21 => ?_⟩
      · replace ha := ha.1 c_21
        exact j29 q_fuel a0 x1 x2 x3 x4 x5 v_18 v_18 va0 _ _ h ha
      · replace ha := ha.2 c_21
        exact hq _ _ h ha
set_option maxHeartbeats 2000000 in
theorem EX7_note {ad : Nat → Nat} {nv : Nat} {md : Nat → Bool} {A : q_St} {S : q_S} {x1 : Int32} {x2 : Int32} {x3 : Int32} {x4 : Int32} {x5 : Int32} {x6 : Int32} (h : Rep ad nv md A S) {Q1 : Int32 → q_St → Prop} {Q2 : Int32 → q_S → Prop} (ha : aX7_note nv md x1 x2 x3 x4 x5 x6 Q1 A) (hq : ∀ (r : Int32) (A : q_St) (S : q_S), Rep ad nv md A S → Q1 r A → Q2 r S) : wX7_note (ad 0) x1 x2 x3 x4 x5 x6 Q2 S := by
  unfold wX7_note
  unfold aX7_note at ha
  refine ⟨⟨_, cX7 h⟩, ?_⟩
  refine ⟨_, _, cX7 h, rfl, ?_⟩
  refine EX5_voiceAt h ha (fun o_2 A_1 S wo_2 h ha => ?_)
  refine ⟨fun c_4 => ?_, fun _ c_4 => ?_⟩
  · replace ha := ha.1 (Option.map_eq_none_iff.mp c_4)
    exact hq _ _ _ h ha
  · obtain ⟨a_3, dc_4, rfl⟩ := Option.map_eq_some_iff.mp c_4
    replace ha := ha.2 a_3 dc_4
    have va_3 := wo_2 a_3 dc_4
    refine ⟨_, _, cX7 h, rfl, ?_⟩
    refine EX5_hasBar h ha (fun v_6 A_5 S h ha => ?_)
    refine ⟨fun c_7 => ?_, fun c_7 => ?_⟩
    · replace ha := ha.1 c_7
      refine EX7_isNote h ha (fun v_9 A_8 S h ha => ?_)
      refine ⟨fun c_10 => ?_, fun c_10 => ?_⟩
      · replace ha := ha.1 c_10
        refine ⟨_, _, cX6 h va_3, rfl, ?_⟩
        refine EX3_hasAt h (q_nv va_3) ha (fun v_12 A_11 S h ha => ?_)
        refine ⟨fun c_13 => ?_, fun c_13 => ?_⟩
        · replace ha := ha.1 c_13
          refine ⟨_, _, cX6 h va_3, rfl, ?_⟩
          refine EX3_size h (q_nv va_3) ha (fun v_15 A_14 S h ha => ?_)
          refine ⟨fun c_16 => ?_, fun c_16 => ?_⟩
          · replace ha := ha.1 c_16
            refine ⟨_, _, cX6 h va_3, rfl, ?_⟩
            refine EX3_insert h (q_nv va_3) ha (fun A_17 S h ha => ?_)
            refine ⟨_, _, cX6 h va_3, rfl, ?_⟩
            refine EX3_size h (q_nv va_3) ha (fun v_19 A_18 S h ha => ?_)
            exact hq _ _ _ h ha
          · replace ha := ha.2 c_16
            exact hq _ _ _ h ha
        · replace ha := ha.2 c_13
          exact hq _ _ _ h ha
      · replace ha := ha.2 c_10
        exact hq _ _ _ h ha
    · replace ha := ha.2 c_7
      exact hq _ _ _ h ha
set_option maxHeartbeats 2000000 in
theorem EX7_drop {ad : Nat → Nat} {nv : Nat} {md : Nat → Bool} {A : q_St} {S : q_S} {x1 : Int32} {x2 : Int32} (h : Rep ad nv md A S) {Q1 : Int32 → q_St → Prop} {Q2 : Int32 → q_S → Prop} (ha : aX7_drop nv md x1 x2 Q1 A) (hq : ∀ (r : Int32) (A : q_St) (S : q_S), Rep ad nv md A S → Q1 r A → Q2 r S) : wX7_drop (ad 0) x1 x2 Q2 S := by
  unfold wX7_drop
  unfold aX7_drop at ha
  refine ⟨⟨_, cX7 h⟩, ?_⟩
  refine ⟨_, _, cX7 h, rfl, ?_⟩
  refine EX5_voiceAt h ha (fun o_2 A_1 S wo_2 h ha => ?_)
  refine ⟨fun c_4 => ?_, fun _ c_4 => ?_⟩
  · replace ha := ha.1 (Option.map_eq_none_iff.mp c_4)
    exact hq _ _ _ h ha
  · obtain ⟨a_3, dc_4, rfl⟩ := Option.map_eq_some_iff.mp c_4
    replace ha := ha.2 a_3 dc_4
    have va_3 := wo_2 a_3 dc_4
    refine ⟨_, _, cX7 h, rfl, ?_⟩
    refine EX5_hasBar h ha (fun v_6 A_5 S h ha => ?_)
    refine ⟨fun c_7 => ?_, fun c_7 => ?_⟩
    · replace ha := ha.1 c_7
      refine ⟨_, _, cX6 h va_3, rfl, ?_⟩
      refine EX3_size h (q_nv va_3) ha (fun v_9 A_8 S h ha => ?_)
      refine ⟨_, _, cX6 h va_3, rfl, ?_⟩
      refine EX3_clearFrom h (q_nv va_3) ha (fun A_10 S h ha => ?_)
      exact hq _ _ _ h ha
    · replace ha := ha.2 c_7
      exact hq _ _ _ h ha
set_option maxHeartbeats 2000000 in
theorem EX7_isMark {ad : Nat → Nat} {nv : Nat} {md : Nat → Bool} {A : q_St} {S : q_S} {x0 : Int32} {x1 : Int32} (h : Rep ad nv md A S) {Q1 : Int32 → q_St → Prop} {Q2 : Int32 → q_S → Prop} (ha : aX7_isMark nv md x0 x1 Q1 A) (hq : ∀ (r : Int32) (A : q_St) (S : q_S), Rep ad nv md A S → Q1 r A → Q2 r S) : wX7_isMark x0 x1 Q2 S := by
  unfold wX7_isMark
  unfold aX7_isMark at ha
  refine ⟨fun c_1 => ?_, fun c_1 => ?_⟩
  · replace ha := ha.1 c_1
    refine EX7_isWithin h ha (fun v_3 A_2 S h ha => ?_)
    refine ⟨fun c_4 => ?_, fun c_4 => ?_⟩
    · replace ha := ha.1 c_4
      exact ⟨ha.1, hq _ _ _ h ha.2⟩
    · replace ha := ha.2 c_4
      refine EX7_isWithin h ha (fun v_6 A_5 S h ha => ?_)
      refine ⟨fun c_7 => ?_, fun c_7 => ?_⟩
      · replace ha := ha.1 c_7
        exact ⟨ha.1, hq _ _ _ h ha.2⟩
      · replace ha := ha.2 c_7
        exact ⟨ha.1, hq _ _ _ h ha.2⟩
  · replace ha := ha.2 c_1
    refine EX7_isWithin h ha (fun v_9 A_8 S h ha => ?_)
    exact ⟨ha.1, hq _ _ _ h ha.2⟩
set_option maxHeartbeats 2000000 in
theorem EX7_mark {ad : Nat → Nat} {nv : Nat} {md : Nat → Bool} {A : q_St} {S : q_S} {x1 : Int32} {x2 : Int32} {x3 : Int32} (h : Rep ad nv md A S) {Q1 : Int32 → q_St → Prop} {Q2 : Int32 → q_S → Prop} (ha : aX7_mark nv md x1 x2 x3 Q1 A) (hq : ∀ (r : Int32) (A : q_St) (S : q_S), Rep ad nv md A S → Q1 r A → Q2 r S) : wX7_mark (ad 0) x1 x2 x3 Q2 S := by
  unfold wX7_mark
  unfold aX7_mark at ha
  refine ⟨⟨_, cX7 h⟩, ?_⟩
  refine ⟨_, _, cX7 h, rfl, ?_⟩
  refine EX5_hasBar h ha (fun v_2 A_1 S h ha => ?_)
  refine ⟨fun c_3 => ?_, fun c_3 => ?_⟩
  · replace ha := ha.1 c_3
    refine EX7_isMark h ha (fun v_5 A_4 S h ha => ?_)
    refine ⟨fun c_6 => ?_, fun c_6 => ?_⟩
    · replace ha := ha.1 c_6
      refine ⟨_, _, cX7 h, rfl, ?_⟩
      refine ⟨_, _, cX5 h, rfl, ?_⟩
      refine EX2_replace h ha (fun v_8 A_7 S h ha => ?_)
      exact hq _ _ _ h ha
    · replace ha := ha.2 c_6
      exact hq _ _ _ h ha
  · replace ha := ha.2 c_3
    exact hq _ _ _ h ha
set_option maxHeartbeats 2000000 in
theorem EX7_unmark {ad : Nat → Nat} {nv : Nat} {md : Nat → Bool} {A : q_St} {S : q_S} {x1 : Int32} {x2 : Int32} (h : Rep ad nv md A S) {Q1 : Int32 → q_St → Prop} {Q2 : Int32 → q_S → Prop} (ha : aX7_unmark nv md x1 x2 Q1 A) (hq : ∀ (r : Int32) (A : q_St) (S : q_S), Rep ad nv md A S → Q1 r A → Q2 r S) : wX7_unmark (ad 0) x1 x2 Q2 S := by
  unfold wX7_unmark
  unfold aX7_unmark at ha
  refine ⟨⟨_, cX7 h⟩, ?_⟩
  refine ⟨_, _, cX7 h, rfl, ?_⟩
  refine EX5_hasBar h ha (fun v_2 A_1 S h ha => ?_)
  refine ⟨fun c_3 => ?_, fun c_3 => ?_⟩
  · replace ha := ha.1 c_3
    refine EX7_isWithin h ha (fun v_5 A_4 S h ha => ?_)
    refine ⟨fun c_6 => ?_, fun c_6 => ?_⟩
    · replace ha := ha.1 c_6
      refine ⟨_, _, cX7 h, rfl, ?_⟩
      refine ⟨_, _, cX5 h, rfl, ?_⟩
      refine EX2_replace h ha (fun v_8 A_7 S h ha => ?_)
      exact hq _ _ _ h ha
    · replace ha := ha.2 c_6
      exact hq _ _ _ h ha
  · replace ha := ha.2 c_3
    exact hq _ _ _ h ha
set_option maxHeartbeats 2000000 in
theorem EX7_instrument {ad : Nat → Nat} {nv : Nat} {md : Nat → Bool} {A : q_St} {S : q_S} {x1 : Int32} {x2 : Int32} {x3 : Int32} (h : Rep ad nv md A S) {Q1 : Int32 → q_St → Prop} {Q2 : Int32 → q_S → Prop} (ha : aX7_instrument nv md x1 x2 x3 Q1 A) (hq : ∀ (r : Int32) (A : q_St) (S : q_S), Rep ad nv md A S → Q1 r A → Q2 r S) : wX7_instrument (ad 0) x1 x2 x3 Q2 S := by
  unfold wX7_instrument
  unfold aX7_instrument at ha
  refine ⟨⟨_, cX7 h⟩, ?_⟩
  refine ⟨_, _, cX7 h, rfl, ?_⟩
  refine EX5_voiceAt h ha (fun o_2 A_1 S wo_2 h ha => ?_)
  refine ⟨fun c_4 => ?_, fun _ c_4 => ?_⟩
  · replace ha := ha.1 (Option.map_eq_none_iff.mp c_4)
    exact hq _ _ _ h ha
  · obtain ⟨a_3, dc_4, rfl⟩ := Option.map_eq_some_iff.mp c_4
    replace ha := ha.2 a_3 dc_4
    have va_3 := wo_2 a_3 dc_4
    refine EX7_isWithin h ha (fun v_6 A_5 S h ha => ?_)
    refine ⟨fun c_7 => ?_, fun c_7 => ?_⟩
    · replace ha := ha.1 c_7
      exact hq _ _ _ h ha
    · replace ha := ha.2 c_7
      refine EX7_isWithin h ha (fun v_9 A_8 S h ha => ?_)
      refine ⟨fun c_10 => ?_, fun c_10 => ?_⟩
      · replace ha := ha.1 c_10
        refine e_pX6_2 h va_3 ha (fun A_11 S h ha => ?_)
        refine e_pX6_3 h va_3 ha (fun A_12 S h ha => ?_)
        exact hq _ _ _ h ha
      · replace ha := ha.2 c_10
        exact hq _ _ _ h ha
set_option maxHeartbeats 2000000 in
theorem EX7_cueing {ad : Nat → Nat} {nv : Nat} {md : Nat → Bool} {A : q_St} {S : q_S} {x1 : Int32} (h : Rep ad nv md A S) {Q1 : Int32 → q_St → Prop} {Q2 : Int32 → q_S → Prop} (ha : aX7_cueing nv md x1 Q1 A) (hq : ∀ (r : Int32) (A : q_St) (S : q_S), Rep ad nv md A S → Q1 r A → Q2 r S) : wX7_cueing (ad 0) x1 Q2 S := by
  unfold wX7_cueing
  unfold aX7_cueing at ha
  refine ⟨⟨_, cX7 h⟩, ?_⟩
  refine EX7_isWithin h ha (fun v_2 A_1 S h ha => ?_)
  refine ⟨fun c_3 => ?_, fun c_3 => ?_⟩
  · replace ha := ha.1 c_3
    refine ⟨_, _, cX7 h, rfl, ?_⟩
    refine ⟨_, _, cX5 h, rfl, ?_⟩
    refine ⟨_, _, cX7 h, rfl, ?_⟩
    refine e_pX5_4 h ha (fun A_4 S h ha => ?_)
    exact hq _ _ _ h ha
  · replace ha := ha.2 c_3
    exact hq _ _ _ h ha
set_option maxHeartbeats 2000000 in
theorem EX4_clear {ad : Nat → Nat} {nv : Nat} {md : Nat → Bool} {A : q_St} {S : q_S} {a0 : Nat} (h : Rep ad nv md A S) (va0 : q_PT md a0) {Q1 : q_St → Prop} {Q2 : q_S → Prop} (ha : aX4_clear nv md a0 Q1 A) (hq : ∀ (A : q_St) (S : q_S), Rep ad nv md A S → Q1 A → Q2 S) : wX4_clear (ad a0) Q2 S := by
  unfold wX4_clear
  unfold aX4_clear at ha
  refine ⟨⟨_, cX4 h va0⟩, ?_⟩
  refine e_pX4_2 h va0 ha (fun A_1 S h ha => ?_)
  refine ⟨_, _, cX4 h va0, rfl, ?_⟩
  refine EX3_clearFrom h (q_np va0) ha (fun A_2 S h ha => ?_)
  exact hq _ _ h ha
set_option maxHeartbeats 2000000 in
theorem EX3_total {ad : Nat → Nat} {nv : Nat} {md : Nat → Bool} {A : q_St} {S : q_S} {a0 : Nat} (h : Rep ad nv md A S) (va0 : q_NT nv md a0) {Q1 : Int32 → q_St → Prop} {Q2 : Int32 → q_S → Prop} (ha : aX3_total nv md a0 Q1 A) (hq : ∀ (r : Int32) (A : q_St) (S : q_S), Rep ad nv md A S → Q1 r A → Q2 r S) : wX3_total (ad a0) Q2 S := by
  have j4 : ∀ (n : Nat), ∀ (a0 : Nat) (x1 : Int32) (x2 : Int32) (va0 : q_NT nv md a0) (A : q_St) (S : q_S), Rep ad nv md A S → alX3_total_b4 nv md Q1 n a0 x1 x2 A → lX3_total_b4 Q2 n (ad a0) x1 x2 S := by
    intro n
    induction n with
    | zero => intro a0 x1 x2 va0 A S h ha; exact absurd ha (fun h => h)
    | succ n ih4 =>
      intro a0 x1 x2 va0 A S h ha
      show wX3_total_b4 Q2 (lX3_total_b4 Q2 n) (ad a0) x1 x2 S
      have ha : aX3_total_b4 nv md Q1 (alX3_total_b4 nv md Q1 n) a0 x1 x2 A := ha
      unfold wX3_total_b4
      unfold aX3_total_b4 at ha
      refine ⟨fun c_1 => ?_, fun c_1 => ?_⟩
      · replace ha := ha.1 c_1
        exact hq _ _ _ h ha
      · replace ha := ha.2 c_1
        refine ⟨_, _, cX3 h va0, rfl, ?_⟩
        refine e_l h (isaX3_sizes va0) ha (fun ha => ?_)
        exact ih4 a0 (x1 + (A (a0 + 1) x2.toNatClampNeg)) (x2 + (1 : Int32)) va0 _ _ h ha
  unfold wX3_total
  unfold aX3_total at ha
  refine ⟨⟨_, cX3 h va0⟩, ?_⟩
  exact j4 q_fuel a0 (0 : Int32) (0 : Int32) va0 _ _ h ha
set_option maxHeartbeats 2000000 in
theorem EX4_hasRow {ad : Nat → Nat} {nv : Nat} {md : Nat → Bool} {A : q_St} {S : q_S} {a0 : Nat} {x1 : Int32} (h : Rep ad nv md A S) (va0 : q_PT md a0) {Q1 : Int32 → q_St → Prop} {Q2 : Int32 → q_S → Prop} (ha : aX4_hasRow nv md a0 x1 Q1 A) (hq : ∀ (r : Int32) (A : q_St) (S : q_S), Rep ad nv md A S → Q1 r A → Q2 r S) : wX4_hasRow (ad a0) x1 Q2 S := by
  unfold wX4_hasRow
  unfold aX4_hasRow at ha
  refine ⟨⟨_, cX4 h va0⟩, ?_⟩
  refine ⟨fun c_1 => ?_, fun c_1 => ?_⟩
  · replace ha := ha.1 c_1
    exact ⟨ha.1, hq _ _ _ h ha.2⟩
  · replace ha := ha.2 c_1
    refine ⟨_, _, cX4 h va0, rfl, ?_⟩
    refine ⟨fun c_2 => ?_, fun c_2 => ?_⟩
    · replace ha := ha.1 c_2
      exact ⟨ha.1, hq _ _ _ h ha.2⟩
    · replace ha := ha.2 c_2
      exact ⟨ha.1, hq _ _ _ h ha.2⟩
set_option maxHeartbeats 2000000 in
theorem EX4_setFigure {ad : Nat → Nat} {nv : Nat} {md : Nat → Bool} {A : q_St} {S : q_S} {a0 : Nat} {x1 : Int32} {x2 : Int32} {x3 : Int32} (h : Rep ad nv md A S) (va0 : q_PT md a0) {Q1 : q_St → Prop} {Q2 : q_S → Prop} (ha : aX4_setFigure nv md a0 x1 x2 x3 Q1 A) (hq : ∀ (A : q_St) (S : q_S), Rep ad nv md A S → Q1 A → Q2 S) : wX4_setFigure (ad a0) x1 x2 x3 Q2 S := by
  unfold wX4_setFigure
  unfold aX4_setFigure at ha
  refine ⟨⟨_, cX4 h va0⟩, ?_⟩
  refine EX4_hasRow h va0 ha (fun v_2 A_1 S h ha => ?_)
  refine ⟨fun c_3 => ?_, fun c_3 => ?_⟩
  · replace ha := ha.1 c_3
    exact hq _ _ h ha
  · replace ha := ha.2 c_3
    refine ⟨fun c_4 => ?_, fun c_4 => ?_⟩
    · replace ha := ha.1 c_4
      exact hq _ _ h ha
    · replace ha := ha.2 c_4
      refine ⟨fun c_5 => ?_, fun c_5 => ?_⟩
      · replace ha := ha.1 c_5
        exact hq _ _ h ha
      · replace ha := ha.2 c_5
        refine ⟨_, _, cX4 h va0, rfl, ?_⟩
        refine e_s h (isaX4_figures va0) ha (fun A_6 S h ha => ?_)
        exact hq _ _ h ha
set_option maxHeartbeats 2000000 in
theorem EX4_addRow {ad : Nat → Nat} {nv : Nat} {md : Nat → Bool} {A : q_St} {S : q_S} {a0 : Nat} {x1 : Int32} {x2 : Int32} {x3 : Int32} (h : Rep ad nv md A S) (va0 : q_PT md a0) {Q1 : Int32 → q_St → Prop} {Q2 : Int32 → q_S → Prop} (ha : aX4_addRow nv md a0 x1 x2 x3 Q1 A) (hq : ∀ (r : Int32) (A : q_St) (S : q_S), Rep ad nv md A S → Q1 r A → Q2 r S) : wX4_addRow (ad a0) x1 x2 x3 Q2 S := by
  unfold wX4_addRow
  unfold aX4_addRow at ha
  refine ⟨⟨_, cX4 h va0⟩, ?_⟩
  refine ⟨_, _, cX4 h va0, rfl, ?_⟩
  refine ⟨fun c_1 => ?_, fun c_1 => ?_⟩
  · replace ha := ha.1 c_1
    refine ⟨_, _, cX4 h va0, rfl, ?_⟩
    refine ⟨_, _, cX4 h va0, rfl, ?_⟩
    refine e_pX4_2 h va0 ha (fun A_2 S h ha => ?_)
    refine EX4_setFigure h va0 ha (fun A_3 S h ha => ?_)
    refine EX4_setFigure h va0 ha (fun A_4 S h ha => ?_)
    refine EX4_setFigure h va0 ha (fun A_5 S h ha => ?_)
    refine EX4_setFigure h va0 ha (fun A_6 S h ha => ?_)
    refine EX4_setFigure h va0 ha (fun A_7 S h ha => ?_)
    exact hq _ _ _ h ha
  · replace ha := ha.2 c_1
    exact hq _ _ _ h ha
set_option maxHeartbeats 2000000 in
theorem EX4_figure {ad : Nat → Nat} {nv : Nat} {md : Nat → Bool} {A : q_St} {S : q_S} {a0 : Nat} {x1 : Int32} {x2 : Int32} (h : Rep ad nv md A S) (va0 : q_PT md a0) {Q1 : Int32 → q_St → Prop} {Q2 : Int32 → q_S → Prop} (ha : aX4_figure nv md a0 x1 x2 Q1 A) (hq : ∀ (r : Int32) (A : q_St) (S : q_S), Rep ad nv md A S → Q1 r A → Q2 r S) : wX4_figure (ad a0) x1 x2 Q2 S := by
  unfold wX4_figure
  unfold aX4_figure at ha
  refine ⟨⟨_, cX4 h va0⟩, ?_⟩
  refine EX4_hasRow h va0 ha (fun v_2 A_1 S h ha => ?_)
  refine ⟨fun c_3 => ?_, fun c_3 => ?_⟩
  · replace ha := ha.1 c_3
    exact hq _ _ _ h ha
  · replace ha := ha.2 c_3
    refine ⟨fun c_4 => ?_, fun c_4 => ?_⟩
    · replace ha := ha.1 c_4
      exact hq _ _ _ h ha
    · replace ha := ha.2 c_4
      refine ⟨fun c_5 => ?_, fun c_5 => ?_⟩
      · replace ha := ha.1 c_5
        refine ⟨_, _, cX4 h va0, rfl, ?_⟩
        refine e_l h (isaX4_figures va0) ha (fun ha => ?_)
        exact hq _ _ _ h ha
      · replace ha := ha.2 c_5
        exact hq _ _ _ h ha
set_option maxHeartbeats 2000000 in
theorem EX2_valueAt {ad : Nat → Nat} {nv : Nat} {md : Nat → Bool} {A : q_St} {S : q_S} {x1 : Int32} {x2 : Int32} (h : Rep ad nv md A S) {Q1 : Int32 → q_St → Prop} {Q2 : Int32 → q_S → Prop} (ha : aX2_valueAt nv md x1 x2 Q1 A) (hq : ∀ (r : Int32) (A : q_St) (S : q_S), Rep ad nv md A S → Q1 r A → Q2 r S) : wX2_valueAt (ad 3) x1 x2 Q2 S := by
  unfold wX2_valueAt
  unfold aX2_valueAt at ha
  refine ⟨⟨_, cX2 h⟩, ?_⟩
  refine EX2_isPlace h ha (fun v_2 A_1 S h ha => ?_)
  refine ⟨fun c_3 => ?_, fun c_3 => ?_⟩
  · replace ha := ha.1 c_3
    exact hq _ _ _ h ha
  · replace ha := ha.2 c_3
    refine ⟨_, _, cX2 h, rfl, ?_⟩
    refine e_l h isaX2_held ha (fun ha => ?_)
    exact hq _ _ _ h ha
set_option maxHeartbeats 2000000 in
theorem EX2_isNeeded {ad : Nat → Nat} {nv : Nat} {md : Nat → Bool} {A : q_St} {S : q_S} {x1 : Int32} (h : Rep ad nv md A S) {Q1 : Int32 → q_St → Prop} {Q2 : Int32 → q_S → Prop} (ha : aX2_isNeeded nv md x1 Q1 A) (hq : ∀ (r : Int32) (A : q_St) (S : q_S), Rep ad nv md A S → Q1 r A → Q2 r S) : wX2_isNeeded (ad 3) x1 Q2 S := by
  have j25 : ∀ (k2 : Int32 → Int32 → q_St → Prop) (m2 : Nat → Int32 → Int32 → q_S → Prop) (ih2 : ∀ (x1 : Int32) (x2 : Int32) (A : q_St) (S : q_S), Rep ad nv md A S → k2 x1 x2 A → m2 (ad 3) x1 x2 S) (x1 : Int32) (x2 : Int32) (A : q_St) (S : q_S), Rep ad nv md A S → aX2_isNeeded_b25 nv md Q1 k2 x1 x2 A → wX2_isNeeded_b25 Q2 m2 (ad 3) x1 x2 S := by
    intro k2 m2 ih2 x1 x2 A S h ha
    unfold wX2_isNeeded_b25
    unfold aX2_isNeeded_b25 at ha
    exact ih2 x1 (x2 + (1 : Int32)) _ _ h ha
  have j2 : ∀ (n : Nat), ∀ (x1 : Int32) (x2 : Int32) (A : q_St) (S : q_S), Rep ad nv md A S → alX2_isNeeded_b2 nv md Q1 n x1 x2 A → lX2_isNeeded_b2 Q2 n (ad 3) x1 x2 S := by
    intro n
    induction n with
    | zero => intro x1 x2 A S h ha; exact absurd ha (fun h => h)
    | succ n ih2 =>
      intro x1 x2 A S h ha
      show wX2_isNeeded_b2 Q2 (lX2_isNeeded_b2 Q2 n) (ad 3) x1 x2 S
      have ha : aX2_isNeeded_b2 nv md Q1 (alX2_isNeeded_b2 nv md Q1 n) x1 x2 A := ha
      unfold wX2_isNeeded_b2
      unfold aX2_isNeeded_b2 at ha
      refine ⟨fun c_1 => ?_, fun c_1 => ?_⟩
      · replace ha := ha.1 c_1
        exact ⟨ha.1, hq _ _ _ h ha.2⟩
      · replace ha := ha.2 c_1
        refine ⟨fun c_2 => ?_, fun c_2 => ?_⟩
        · replace ha := ha.1 c_2
          exact j25 (alX2_isNeeded_b2 nv md Q1 n) _ ih2 x1 x2 _ _ h ha
        · replace ha := ha.2 c_2
          refine EX2_valueAt h ha (fun v_4 A_3 S h ha => ?_)
          refine ⟨fun c_5 => ?_, fun c_5 => ?_⟩
          · replace ha := ha.1 c_5
            exact j25 (alX2_isNeeded_b2 nv md Q1 n) _ ih2 x1 x2 _ _ h ha
          · replace ha := ha.2 c_5
            exact ⟨ha.1, hq _ _ _ h ha.2⟩
  unfold wX2_isNeeded
  unfold aX2_isNeeded at ha
  refine ⟨⟨_, cX2 h⟩, ?_⟩
  exact j2 q_fuel x1 (0 : Int32) _ _ h ha
set_option maxHeartbeats 2000000 in
theorem EX3_unlikeStarts {ad : Nat → Nat} {nv : Nat} {md : Nat → Bool} {A : q_St} {S : q_S} {a0 : Nat} {x1 : Int32} (h : Rep ad nv md A S) (va0 : q_NT nv md a0) {Q1 : Int32 → q_St → Prop} {Q2 : Int32 → q_S → Prop} (ha : aX3_unlikeStarts nv md a0 x1 Q1 A) (hq : ∀ (r : Int32) (A : q_St) (S : q_S), Rep ad nv md A S → Q1 r A → Q2 r S) : wX3_unlikeStarts (ad a0) x1 Q2 S := by
  have j39 : ∀ (k4 : Nat → Int32 → Int32 → Int32 → q_St → Prop) (m4 : Nat → Int32 → Int32 → Int32 → q_S → Prop) (ih4 : ∀ (a0 : Nat) (x1 : Int32) (x2 : Int32) (x3 : Int32) (va0 : q_NT nv md a0) (A : q_St) (S : q_S), Rep ad nv md A S → k4 a0 x1 x2 x3 A → m4 (ad a0) x1 x2 x3 S) (a0 : Nat) (x1 : Int32) (x2 : Int32) (x3 : Int32) (va0 : q_NT nv md a0) (A : q_St) (S : q_S), Rep ad nv md A S → aX3_unlikeStarts_b39 nv md Q1 k4 a0 x1 x2 x3 A → wX3_unlikeStarts_b39 Q2 m4 (ad a0) x1 x2 x3 S := by
    intro k4 m4 ih4 a0 x1 x2 x3 va0 A S h ha
    unfold wX3_unlikeStarts_b39
    unfold aX3_unlikeStarts_b39 at ha
    exact ih4 a0 x1 x2 (x3 + (1 : Int32)) va0 _ _ h ha
  have j36 : ∀ (k4 : Nat → Int32 → Int32 → Int32 → q_St → Prop) (m4 : Nat → Int32 → Int32 → Int32 → q_S → Prop) (ih4 : ∀ (a0 : Nat) (x1 : Int32) (x2 : Int32) (x3 : Int32) (va0 : q_NT nv md a0) (A : q_St) (S : q_S), Rep ad nv md A S → k4 a0 x1 x2 x3 A → m4 (ad a0) x1 x2 x3 S) (a0 : Nat) (x1 : Int32) (x2 : Int32) (x3 : Int32) (va0 : q_NT nv md a0) (A : q_St) (S : q_S), Rep ad nv md A S → aX3_unlikeStarts_b36 nv md Q1 k4 a0 x1 x2 x3 A → wX3_unlikeStarts_b36 Q2 m4 (ad a0) x1 x2 x3 S := by
    intro k4 m4 ih4 a0 x1 x2 x3 va0 A S h ha
    unfold wX3_unlikeStarts_b36
    unfold aX3_unlikeStarts_b36 at ha
    exact j39 k4 _ ih4 a0 x1 (x2 + (1 : Int32)) x3 va0 _ _ h ha
  have j4 : ∀ (n : Nat), ∀ (a0 : Nat) (x1 : Int32) (x2 : Int32) (x3 : Int32) (va0 : q_NT nv md a0) (A : q_St) (S : q_S), Rep ad nv md A S → alX3_unlikeStarts_b4 nv md Q1 n a0 x1 x2 x3 A → lX3_unlikeStarts_b4 Q2 n (ad a0) x1 x2 x3 S := by
    intro n
    induction n with
    | zero => intro a0 x1 x2 x3 va0 A S h ha; exact absurd ha (fun h => h)
    | succ n ih4 =>
      intro a0 x1 x2 x3 va0 A S h ha
      show wX3_unlikeStarts_b4 Q2 (lX3_unlikeStarts_b4 Q2 n) (ad a0) x1 x2 x3 S
      have ha : aX3_unlikeStarts_b4 nv md Q1 (alX3_unlikeStarts_b4 nv md Q1 n) a0 x1 x2 x3 A := ha
      unfold wX3_unlikeStarts_b4
      unfold aX3_unlikeStarts_b4 at ha
      refine EX3_size h va0 ha (fun v_2 A_1 S h ha => ?_)
      refine ⟨fun c_3 => ?_, fun c_3 => ?_⟩
      · replace ha := ha.1 c_3
        exact hq _ _ _ h ha
      · replace ha := ha.2 c_3
        refine ⟨fun c_4 => ?_, fun c_4 => ?_⟩
        · replace ha := ha.1 c_4
          exact j36 (alX3_unlikeStarts_b4 nv md Q1 n) _ ih4 a0 x1 x2 x3 va0 _ _ h ha
        · replace ha := ha.2 c_4
          refine EX3_figure h va0 ha (fun v_6 A_5 S h ha => ?_)
          refine EX3_figure h va0 ha (fun v_8 A_7 S h ha => ?_)
          refine ⟨fun c_9 => ?_, fun c_9 => ?_⟩
          · replace ha := ha.1 c_9
            exact j39 (alX3_unlikeStarts_b4 nv md Q1 n) _ ih4 a0 x1 x2 x3 va0 _ _ h ha
          · replace ha := ha.2 c_9
            exact j36 (alX3_unlikeStarts_b4 nv md Q1 n) _ ih4 a0 x1 x2 x3 va0 _ _ h ha
  unfold wX3_unlikeStarts
  unfold aX3_unlikeStarts at ha
  refine ⟨⟨_, cX3 h va0⟩, ?_⟩
  exact j4 q_fuel a0 x1 (0 : Int32) (0 : Int32) va0 _ _ h ha
set_option maxHeartbeats 2000000 in
theorem EX0_bareWidth {ad : Nat → Nat} {nv : Nat} {md : Nat → Bool} {A : q_St} {S : q_S} {a0 : Nat} {x1 : Int32} (h : Rep ad nv md A S) (va0 : q_PT md a0) {Q1 : Int32 → q_St → Prop} {Q2 : Int32 → q_S → Prop} (ha : aX0_bareWidth nv md a0 x1 Q1 A) (hq : ∀ (r : Int32) (A : q_St) (S : q_S), Rep ad nv md A S → Q1 r A → Q2 r S) : wX0_bareWidth (ad a0) x1 Q2 S := by
  unfold wX0_bareWidth
  unfold aX0_bareWidth at ha
  refine ⟨_, _, cX4 h va0, rfl, ?_⟩
  refine EX3_unlikeStarts h (q_np va0) ha (fun v_2 A_1 S h ha => ?_)
  refine EX4_figure h va0 ha (fun v_4 A_3 S h ha => ?_)
  refine ⟨fun c => ?_, fun c => ?_, fun c => ?_, fun c => ?_⟩
  · replace ha := ha.1 c
    exact hq _ _ _ h ha
  · replace ha := ha.2.1 c
    exact hq _ _ _ h ha
  · replace ha := ha.2.2.1 c
    exact hq _ _ _ h ha
  · replace ha := ha.2.2.2 c
    exact hq _ _ _ h ha
set_option maxHeartbeats 2000000 in
theorem EX2_keyAt {ad : Nat → Nat} {nv : Nat} {md : Nat → Bool} {A : q_St} {S : q_S} {x1 : Int32} (h : Rep ad nv md A S) {Q1 : Int32 → q_St → Prop} {Q2 : Int32 → q_S → Prop} (ha : aX2_keyAt nv md x1 Q1 A) (hq : ∀ (r : Int32) (A : q_St) (S : q_S), Rep ad nv md A S → Q1 r A → Q2 r S) : wX2_keyAt (ad 3) x1 Q2 S := by
  have j2 : ∀ (n : Nat), ∀ (x2 : Int32) (A : q_St) (S : q_S), Rep ad nv md A S → alX2_keyAt_b2 nv md Q1 n x2 A → lX2_keyAt_b2 Q2 n (ad 3) x2 S := by
    intro n
    induction n with
    | zero => intro x2 A S h ha; exact absurd ha (fun h => h)
    | succ n ih2 =>
      intro x2 A S h ha
      show wX2_keyAt_b2 Q2 (lX2_keyAt_b2 Q2 n) (ad 3) x2 S
      have ha : aX2_keyAt_b2 nv md Q1 (alX2_keyAt_b2 nv md Q1 n) x2 A := ha
      unfold wX2_keyAt_b2
      unfold aX2_keyAt_b2 at ha
      refine ⟨fun c_1 => ?_, fun c_1 => ?_⟩
      · replace ha := ha.1 c_1
        exact hq _ _ _ h ha
      · replace ha := ha.2 c_1
        refine EX2_valueAt h ha (fun v_3 A_2 S h ha => ?_)
        refine ⟨fun c_4 => ?_, fun c_4 => ?_⟩
        · replace ha := ha.1 c_4
          exact ih2 (x2 + (-1 : Int32)) _ _ h ha
        · replace ha := ha.2 c_4
          exact hq _ _ _ h ha
  unfold wX2_keyAt
  unfold aX2_keyAt at ha
  refine ⟨⟨_, cX2 h⟩, ?_⟩
  exact j2 q_fuel x1 _ _ h ha
set_option maxHeartbeats 2000000 in
theorem EX6_keyTurn {ad : Nat → Nat} {nv : Nat} {md : Nat → Bool} {A : q_St} {S : q_S} {a0 : Nat} {x1 : Int32} (h : Rep ad nv md A S) (va0 : q_VO nv a0) {Q1 : Int32 → q_St → Prop} {Q2 : Int32 → q_S → Prop} (ha : aX6_keyTurn nv md a0 x1 Q1 A) (hq : ∀ (r : Int32) (A : q_St) (S : q_S), Rep ad nv md A S → Q1 r A → Q2 r S) : wX6_keyTurn (ad a0) x1 Q2 S := by
  unfold wX6_keyTurn
  unfold aX6_keyTurn at ha
  refine ⟨⟨_, cX6 h va0⟩, ?_⟩
  refine ⟨_, _, cX6 h va0, rfl, ?_⟩
  refine ⟨fun c_1 => ?_, fun c_1 => ?_⟩
  · replace ha := ha.1 c_1
    refine ⟨_, _, cX6 h va0, rfl, ?_⟩
    refine ⟨fun c_2 => ?_, fun c_2 => ?_⟩
    · replace ha := ha.1 c_2
      exact hq _ _ _ h ha
    · replace ha := ha.2 c_2
      exact hq _ _ _ h ha
  · replace ha := ha.2 c_1
    exact hq _ _ _ h ha
set_option maxHeartbeats 2000000 in
theorem EX6_keyFor {ad : Nat → Nat} {nv : Nat} {md : Nat → Bool} {A : q_St} {S : q_S} {a0 : Nat} {x1 : Int32} (h : Rep ad nv md A S) (va0 : q_VO nv a0) {Q1 : Int32 → q_St → Prop} {Q2 : Int32 → q_S → Prop} (ha : aX6_keyFor nv md a0 x1 Q1 A) (hq : ∀ (r : Int32) (A : q_St) (S : q_S), Rep ad nv md A S → Q1 r A → Q2 r S) : wX6_keyFor (ad a0) x1 Q2 S := by
  unfold wX6_keyFor
  unfold aX6_keyFor at ha
  refine ⟨⟨_, cX6 h va0⟩, ?_⟩
  refine ⟨_, _, cX6 h va0, rfl, ?_⟩
  refine EX6_keyTurn h va0 ha (fun v_2 A_1 S h ha => ?_)
  exact hq _ _ _ h ha
set_option maxHeartbeats 2000000 in
theorem EX0_finishRow {ad : Nat → Nat} {nv : Nat} {md : Nat → Bool} {A : q_St} {S : q_S} {a1 : Nat} {a2 : Nat} {x3 : Int32} (h : Rep ad nv md A S) (va1 : q_VO nv a1) (va2 : q_PT md a2) {Q1 : q_St → Prop} {Q2 : q_S → Prop} (ha : aX0_finishRow nv md a1 a2 x3 Q1 A) (hq : ∀ (A : q_St) (S : q_S), Rep ad nv md A S → Q1 A → Q2 S) : wX0_finishRow (ad 1) (ad a1) (ad a2) x3 Q2 S := by
  have j25 : ∀ (a1 : Nat) (a2 : Nat) (x3 : Int32) (x4 : Int32) (y0 : Int32) (va1 : q_VO nv a1) (va2 : q_PT md a2) (A : q_St) (S : q_S), Rep ad nv md A S → aX0_finishRow_b25 nv md Q1 a1 a2 x3 x4 y0 A → wX0_finishRow_b25 Q2 (ad 1) (ad a1) (ad a2) x3 x4 y0 S := by
    intro a1 a2 x3 x4 y0 va1 va2 A S h ha
    unfold wX0_finishRow_b25
    unfold aX0_finishRow_b25 at ha
    refine EX0_bareWidth h va2 ha (fun v_2 A_1 S h ha => ?_)
    refine EX4_setFigure h va2 ha (fun A_3 S h ha => ?_)
    refine ⟨_, _, cX5 h, rfl, ?_⟩
    refine EX2_keyAt h ha (fun v_5 A_4 S h ha => ?_)
    refine EX6_keyFor h va1 ha (fun v_7 A_6 S h ha => ?_)
    refine EX4_setFigure h va2 ha (fun A_8 S h ha => ?_)
    exact hq _ _ h ha
  unfold wX0_finishRow
  unfold aX0_finishRow at ha
  refine EX4_figure h va2 ha (fun v_10 A_9 S h ha => ?_)
  refine ⟨_, _, cX5 h, rfl, ?_⟩
  refine EX2_isNeeded h ha (fun v_12 A_11 S h ha => ?_)
  refine ⟨fun c_13 => ?_, fun c_13 => ?_⟩
  · replace ha := ha.1 c_13
    exact j25 a1 a2 x3 v_10 (0 : Int32) va1 va2 _ _ h ha
  · replace ha := ha.2 c_13
    exact j25 a1 a2 x3 v_10 (1 : Int32) va1 va2 _ _ h ha
set_option maxHeartbeats 2000000 in
theorem EX5_emptyUpTo {ad : Nat → Nat} {nv : Nat} {md : Nat → Bool} {A : q_St} {S : q_S} {a0 : Nat} {x1 : Int32} (h : Rep ad nv md A S) (va0 : q_VO nv a0) {Q1 : Int32 → q_St → Prop} {Q2 : Int32 → q_S → Prop} (ha : aX5_emptyUpTo nv md a0 x1 Q1 A) (hq : ∀ (r : Int32) (A : q_St) (S : q_S), Rep ad nv md A S → Q1 r A → Q2 r S) : wX5_emptyUpTo (ad a0) x1 Q2 S := by
  have j4 : ∀ (n : Nat), ∀ (a0 : Nat) (x2 : Int32) (x3 : Int32) (va0 : q_VO nv a0) (A : q_St) (S : q_S), Rep ad nv md A S → alX5_emptyUpTo_b4 nv md Q1 n a0 x2 x3 A → lX5_emptyUpTo_b4 Q2 n (ad a0) x2 x3 S := by
    intro n
    induction n with
    | zero => intro a0 x2 x3 va0 A S h ha; exact absurd ha (fun h => h)
    | succ n ih4 =>
      intro a0 x2 x3 va0 A S h ha
      show wX5_emptyUpTo_b4 Q2 (lX5_emptyUpTo_b4 Q2 n) (ad a0) x2 x3 S
      have ha : aX5_emptyUpTo_b4 nv md Q1 (alX5_emptyUpTo_b4 nv md Q1 n) a0 x2 x3 A := ha
      unfold wX5_emptyUpTo_b4
      unfold aX5_emptyUpTo_b4 at ha
      refine ⟨fun c_1 => ?_, fun c_1 => ?_⟩
      · replace ha := ha.1 c_1
        exact hq _ _ _ h ha
      · replace ha := ha.2 c_1
        refine ⟨_, _, cX6 h va0, rfl, ?_⟩
        refine EX3_size h (q_nv va0) ha (fun v_3 A_2 S h ha => ?_)
        refine ⟨fun c_4 => ?_, fun c_4 => ?_⟩
        · replace ha := ha.1 c_4
          exact hq _ _ _ h ha
        · replace ha := ha.2 c_4
          exact ih4 a0 (x2 + (1 : Int32)) (x3 + (-1 : Int32)) va0 _ _ h ha
  unfold wX5_emptyUpTo
  unfold aX5_emptyUpTo at ha
  exact j4 q_fuel a0 (0 : Int32) x1 va0 _ _ h ha
set_option maxHeartbeats 2000000 in
theorem EX5_cueFor {ad : Nat → Nat} {nv : Nat} {md : Nat → Bool} {A : q_St} {S : q_S} {a1 : Nat} {x2 : Int32} (h : Rep ad nv md A S) (va1 : q_VO nv a1) {Q1 : Option Nat → q_St → Prop} {Q2 : Option Nat → q_S → Prop} (ha : aX5_cueFor nv md a1 x2 Q1 A) (hq : ∀ (o : Option Nat) (A : q_St) (S : q_S), (∀ i, o = some i → q_VO nv i) → Rep ad nv md A S → Q1 o A → Q2 (o.map ad) S) : wX5_cueFor (ad 1) (ad a1) x2 Q2 S := by
  have j106 : ∀ (k57 : Int32 → Option Nat → Int32 → Int32 → q_St → Prop) (m57 : Nat → Int32 → Option Nat → Int32 → Int32 → q_S → Prop) (ih57 : ∀ (x2 : Int32) (o4 : Option Nat) (x5 : Int32) (x6 : Int32) (vo4 : ∀ i, o4 = some i → q_VO nv i) (A : q_St) (S : q_S), Rep ad nv md A S → k57 x2 o4 x5 x6 A → m57 (ad 1) x2 (o4.map ad) x5 x6 S) (x2 : Int32) (o4 : Option Nat) (x5 : Int32) (x6 : Int32) (vo4 : ∀ i, o4 = some i → q_VO nv i) (A : q_St) (S : q_S), Rep ad nv md A S → aX5_cueFor_b106 nv md Q1 k57 x2 o4 x5 x6 A → wX5_cueFor_b106 Q2 m57 (ad 1) x2 (o4.map ad) x5 x6 S := by
    intro k57 m57 ih57 x2 o4 x5 x6 vo4 A S h ha
    unfold wX5_cueFor_b106
    unfold aX5_cueFor_b106 at ha
    exact ih57 x2 o4 x5 (x6 + (1 : Int32)) vo4 _ _ h ha
  have j57 : ∀ (n : Nat), ∀ (x2 : Int32) (o4 : Option Nat) (x5 : Int32) (x6 : Int32) (vo4 : ∀ i, o4 = some i → q_VO nv i) (A : q_St) (S : q_S), Rep ad nv md A S → alX5_cueFor_b57 nv md Q1 n x2 o4 x5 x6 A → lX5_cueFor_b57 Q2 n (ad 1) x2 (o4.map ad) x5 x6 S := by
    intro n
    induction n with
    | zero => intro x2 o4 x5 x6 vo4 A S h ha; exact absurd ha (fun h => h)
    | succ n ih57 =>
      intro x2 o4 x5 x6 vo4 A S h ha
      show wX5_cueFor_b57 Q2 (lX5_cueFor_b57 Q2 n) (ad 1) x2 (o4.map ad) x5 x6 S
      have ha : aX5_cueFor_b57 nv md Q1 (alX5_cueFor_b57 nv md Q1 n) x2 o4 x5 x6 A := ha
      unfold wX5_cueFor_b57
      unfold aX5_cueFor_b57 at ha
      refine ⟨fun c_1 => ?_, fun c_1 => ?_⟩
      · replace ha := ha.1 c_1
        exact hq o4 _ _ vo4 h ha
      · replace ha := ha.2 c_1
        refine EX5_voiceAt h ha (fun o_3 A_2 S wo_3 h ha => ?_)
        refine ⟨fun c_5 => ?_, fun _ c_5 => ?_⟩
        · replace ha := ha.1 (Option.map_eq_none_iff.mp c_5)
          exact j106 (alX5_cueFor_b57 nv md Q1 n) _ ih57 x2 o4 x5 x6 vo4 _ _ h ha
        · obtain ⟨a_4, dc_5, rfl⟩ := Option.map_eq_some_iff.mp c_5
          replace ha := ha.2 a_4 dc_5
          have va_4 := wo_3 a_4 dc_5
          refine ⟨_, _, cX6 h va_4, rfl, ?_⟩
          refine EX3_size h (q_nv va_4) ha (fun v_7 A_6 S h ha => ?_)
          refine ⟨fun c_8 => ?_, fun c_8 => ?_⟩
          · replace ha := ha.1 c_8
            exact j106 (alX5_cueFor_b57 nv md Q1 n) _ ih57 x2 o4 x5 x6 vo4 _ _ h ha
          · replace ha := ha.2 c_8
            refine ⟨_, _, cX6 h va_4, rfl, ?_⟩
            refine EX3_size h (q_nv va_4) ha (fun v_10 A_9 S h ha => ?_)
            exact j106 (alX5_cueFor_b57 nv md Q1 n) _ ih57 x2 (some a_4) v_10 x6 (q_vs va_4) _ _ h ha
  have j29 : ∀ (a1 : Nat) (x2 : Int32) (y0 : Int32) (va1 : q_VO nv a1) (A : q_St) (S : q_S), Rep ad nv md A S → aX5_cueFor_b29 nv md Q1 a1 x2 y0 A → wX5_cueFor_b29 Q2 (ad 1) (ad a1) x2 y0 S := by
    intro a1 x2 y0 va1 A S h ha
    unfold wX5_cueFor_b29
    unfold aX5_cueFor_b29 at ha
    refine ⟨fun c_11 => ?_, fun c_11 => ?_⟩
    · replace ha := ha.1 c_11
      exact hq none _ _ q_vn h ha
    · replace ha := ha.2 c_11
      refine EX5_emptyUpTo h va1 ha (fun v_13 A_12 S h ha => ?_)
      refine ⟨_, _, cX5 h, rfl, ?_⟩
      refine ⟨fun c_14 => ?_, fun c_14 => ?_⟩
      · replace ha := ha.1 c_14
        exact j57 q_fuel x2 none (0 : Int32) (0 : Int32) q_vn _ _ h ha
      · replace ha := ha.2 c_14
        exact hq none _ _ q_vn h ha
  have j28 : ∀ (a1 : Nat) (x2 : Int32) (va1 : q_VO nv a1) (A : q_St) (S : q_S), Rep ad nv md A S → aX5_cueFor_b28 nv md Q1 a1 x2 A → wX5_cueFor_b28 Q2 (ad 1) (ad a1) x2 S := by
    intro a1 x2 va1 A S h ha
    unfold wX5_cueFor_b28
    unfold aX5_cueFor_b28 at ha
    exact j29 a1 x2 (0 : Int32) va1 _ _ h ha
  unfold wX5_cueFor
  unfold aX5_cueFor at ha
  refine ⟨⟨_, cX5 h⟩, ?_⟩
  refine ⟨_, _, cX6 h va1, rfl, ?_⟩
  refine EX3_size h (q_nv va1) ha (fun v_16 A_15 S h ha => ?_)
  refine ⟨fun c_17 => ?_, fun c_17 => ?_⟩
  · replace ha := ha.1 c_17
    exact j28 a1 x2 va1 _ _ h ha
  · replace ha := ha.2 c_17
    refine ⟨_, _, cX6 h va1, rfl, ?_⟩
    refine EX3_size h (q_nv va1) ha (fun v_19 A_18 S h ha => ?_)
    refine ⟨fun c_20 => ?_, fun c_20 => ?_⟩
    · replace ha := ha.1 c_20
      exact j28 a1 x2 va1 _ _ h ha
    · replace ha := ha.2 c_20
      exact j29 a1 x2 (1 : Int32) va1 _ _ h ha
set_option maxHeartbeats 2000000 in
theorem EX0_restLength {ad : Nat → Nat} {nv : Nat} {md : Nat → Bool} {A : q_St} {S : q_S} {a1 : Nat} {x2 : Int32} (h : Rep ad nv md A S) (va1 : q_VO nv a1) {Q1 : Int32 → q_St → Prop} {Q2 : Int32 → q_S → Prop} (ha : aX0_restLength nv md a1 x2 Q1 A) (hq : ∀ (r : Int32) (A : q_St) (S : q_S), Rep ad nv md A S → Q1 r A → Q2 r S) : wX0_restLength (ad 1) (ad a1) x2 Q2 S := by
  have j49 : ∀ (x2 : Int32) (x3 : Int32) (A : q_St) (S : q_S), Rep ad nv md A S → aX0_restLength_b49 nv md Q1 x2 x3 A → wX0_restLength_b49 Q2 x2 x3 S := by
    intro x2 x3 A S h ha
    unfold wX0_restLength_b49
    unfold aX0_restLength_b49 at ha
    exact hq _ _ _ h ha
  have j4 : ∀ (n : Nat), ∀ (a1 : Nat) (x2 : Int32) (x3 : Int32) (va1 : q_VO nv a1) (A : q_St) (S : q_S), Rep ad nv md A S → alX0_restLength_b4 nv md Q1 n a1 x2 x3 A → lX0_restLength_b4 Q2 n (ad 1) (ad a1) x2 x3 S := by
    intro n
    induction n with
    | zero => intro a1 x2 x3 va1 A S h ha; exact absurd ha (fun h => h)
    | succ n ih4 =>
      intro a1 x2 x3 va1 A S h ha
      show wX0_restLength_b4 Q2 (lX0_restLength_b4 Q2 n) (ad 1) (ad a1) x2 x3 S
      have ha : aX0_restLength_b4 nv md Q1 (alX0_restLength_b4 nv md Q1 n) a1 x2 x3 A := ha
      unfold wX0_restLength_b4
      unfold aX0_restLength_b4 at ha
      refine ⟨_, _, cX5 h, rfl, ?_⟩
      refine ⟨fun c_1 => ?_, fun c_1 => ?_⟩
      · replace ha := ha.1 c_1
        exact j49 x2 x3 _ _ h ha
      · replace ha := ha.2 c_1
        refine ⟨_, _, cX6 h va1, rfl, ?_⟩
        refine EX3_size h (q_nv va1) ha (fun v_3 A_2 S h ha => ?_)
        refine ⟨fun c_4 => ?_, fun c_4 => ?_⟩
        · replace ha := ha.1 c_4
          exact j49 x2 x3 _ _ h ha
        · replace ha := ha.2 c_4
          refine ⟨_, _, cX5 h, rfl, ?_⟩
          refine EX2_isNeeded h ha (fun v_6 A_5 S h ha => ?_)
          refine ⟨fun c_7 => ?_, fun c_7 => ?_⟩
          · replace ha := ha.1 c_7
            exact j49 x2 x3 _ _ h ha
          · replace ha := ha.2 c_7
            refine EX5_cueFor h va1 ha (fun o_9 A_8 S wo_9 h ha => ?_)
            refine ⟨fun c_11 => ?_, fun _ c_11 => ?_⟩
            · replace ha := ha.1 (Option.map_eq_none_iff.mp c_11)
              exact ih4 a1 x2 (x3 + (1 : Int32)) va1 _ _ h ha
            · obtain ⟨a_10, dc_11, rfl⟩ := Option.map_eq_some_iff.mp c_11
              replace ha := ha.2 a_10 dc_11
              have va_10 := wo_9 a_10 dc_11
              exact j49 x2 x3 _ _ h ha
  unfold wX0_restLength
  unfold aX0_restLength at ha
  exact j4 q_fuel a1 x2 (x2 + (1 : Int32)) va1 _ _ h ha
set_option maxHeartbeats 2000000 in
theorem EX6_pitchFor {ad : Nat → Nat} {nv : Nat} {md : Nat → Bool} {A : q_St} {S : q_S} {a0 : Nat} {x1 : Int32} (h : Rep ad nv md A S) (va0 : q_VO nv a0) {Q1 : Int32 → q_St → Prop} {Q2 : Int32 → q_S → Prop} (ha : aX6_pitchFor nv md a0 x1 Q1 A) (hq : ∀ (r : Int32) (A : q_St) (S : q_S), Rep ad nv md A S → Q1 r A → Q2 r S) : wX6_pitchFor (ad a0) x1 Q2 S := by
  have j28 : ∀ (a0 : Nat) (y0 : Int32) (y1 : Int32) (va0 : q_VO nv a0) (A : q_St) (S : q_S), Rep ad nv md A S → aX6_pitchFor_b28 nv md Q1 a0 y0 y1 A → wX6_pitchFor_b28 Q2 (ad a0) y0 y1 S := by
    intro a0 y0 y1 va0 A S h ha
    unfold wX6_pitchFor_b28
    unfold aX6_pitchFor_b28 at ha
    refine ⟨_, _, cX6 h va0, rfl, ?_⟩
    exact hq _ _ _ h ha
  unfold wX6_pitchFor
  unfold aX6_pitchFor at ha
  refine ⟨⟨_, cX6 h va0⟩, ?_⟩
  refine ⟨_, _, cX6 h va0, rfl, ?_⟩
  refine EJ9_floorMod_7cf53 h ha (fun v_2 A_1 S h ha => ?_)
  refine ⟨fun c_3 => ?_, fun c_3 => ?_⟩
  · replace ha := ha.1 c_3
    exact j28 a0 x1 v_2 va0 _ _ h ha
  · replace ha := ha.2 c_3
    exact j28 a0 x1 (v_2 - (12 : Int32)) va0 _ _ h ha
set_option maxHeartbeats 2000000 in
theorem EX6_spellingFor {ad : Nat → Nat} {nv : Nat} {md : Nat → Bool} {A : q_St} {S : q_S} {a0 : Nat} {x1 : Int32} {x2 : Int32} (h : Rep ad nv md A S) (va0 : q_VO nv a0) {Q1 : Int32 → q_St → Prop} {Q2 : Int32 → q_S → Prop} (ha : aX6_spellingFor nv md a0 x1 x2 Q1 A) (hq : ∀ (r : Int32) (A : q_St) (S : q_S), Rep ad nv md A S → Q1 r A → Q2 r S) : wX6_spellingFor (ad a0) x1 x2 Q2 S := by
  have j25 : ∀ (n : Nat), ∀ (x3 : Int32) (A : q_St) (S : q_S), Rep ad nv md A S → alX6_spellingFor_b25 nv md Q1 n x3 A → lX6_spellingFor_b25 Q2 n x3 S := by
    intro n
    induction n with
    | zero => intro x3 A S h ha; exact absurd ha (fun h => h)
    | succ n ih25 =>
      intro x3 A S h ha
      show wX6_spellingFor_b25 Q2 (lX6_spellingFor_b25 Q2 n) x3 S
      have ha : aX6_spellingFor_b25 nv md Q1 (alX6_spellingFor_b25 nv md Q1 n) x3 A := ha
      unfold wX6_spellingFor_b25
      unfold aX6_spellingFor_b25 at ha
      refine ⟨fun c_1 => ?_, fun c_1 => ?_⟩
      · replace ha := ha.1 c_1
        exact hq _ _ _ h ha
      · replace ha := ha.2 c_1
        exact ih25 (x3 + (12 : Int32)) _ _ h ha
  have j13 : ∀ (n : Nat), ∀ (x3 : Int32) (A : q_St) (S : q_S), Rep ad nv md A S → alX6_spellingFor_b13 nv md Q1 n x3 A → lX6_spellingFor_b13 Q2 n x3 S := by
    intro n
    induction n with
    | zero => intro x3 A S h ha; exact absurd ha (fun h => h)
    | succ n ih13 =>
      intro x3 A S h ha
      show wX6_spellingFor_b13 Q2 (lX6_spellingFor_b13 Q2 n) x3 S
      have ha : aX6_spellingFor_b13 nv md Q1 (alX6_spellingFor_b13 nv md Q1 n) x3 A := ha
      unfold wX6_spellingFor_b13
      unfold aX6_spellingFor_b13 at ha
      refine ⟨fun c_2 => ?_, fun c_2 => ?_⟩
      · replace ha := ha.1 c_2
        exact j25 q_fuel x3 _ _ h ha
      · replace ha := ha.2 c_2
        exact ih13 (x3 + (-12 : Int32)) _ _ h ha
  unfold wX6_spellingFor
  unfold aX6_spellingFor at ha
  refine ⟨⟨_, cX6 h va0⟩, ?_⟩
  refine ⟨_, _, cX6 h va0, rfl, ?_⟩
  refine EX6_keyTurn h va0 ha (fun v_4 A_3 S h ha => ?_)
  exact j13 q_fuel ((x1 + (A a0 2)) + v_4) _ _ h ha
set_option maxHeartbeats 2000000 in
theorem EX0_writeNotes {ad : Nat → Nat} {nv : Nat} {md : Nat → Bool} {A : q_St} {S : q_S} {a1 : Nat} {a2 : Nat} {a3 : Nat} {x4 : Int32} (h : Rep ad nv md A S) (va1 : q_VO nv a1) (va2 : q_VO nv a2) (va3 : q_PT md a3) {Q1 : q_St → Prop} {Q2 : q_S → Prop} (ha : aX0_writeNotes nv md a1 a2 a3 x4 Q1 A) (hq : ∀ (A : q_St) (S : q_S), Rep ad nv md A S → Q1 A → Q2 S) : wX0_writeNotes (ad 1) (ad a1) (ad a2) (ad a3) x4 Q2 S := by
  have j34 : ∀ (n : Nat), ∀ (a1 : Nat) (a2 : Nat) (a3 : Nat) (x4 : Int32) (x5 : Int32) (x6 : Int32) (x7 : Int32) (x8 : Int32) (va1 : q_VO nv a1) (va2 : q_VO nv a2) (va3 : q_PT md a3) (A : q_St) (S : q_S), Rep ad nv md A S → alX0_writeNotes_b34 nv md Q1 n a1 a2 a3 x4 x5 x6 x7 x8 A → lX0_writeNotes_b34 Q2 n (ad a1) (ad a2) (ad a3) x4 x5 x6 x7 x8 S := by
    intro n
    induction n with
    | zero => intro a1 a2 a3 x4 x5 x6 x7 x8 va1 va2 va3 A S h ha; exact absurd ha (fun h => h)
    | succ n ih34 =>
      intro a1 a2 a3 x4 x5 x6 x7 x8 va1 va2 va3 A S h ha
      show wX0_writeNotes_b34 Q2 (lX0_writeNotes_b34 Q2 n) (ad a1) (ad a2) (ad a3) x4 x5 x6 x7 x8 S
      have ha : aX0_writeNotes_b34 nv md Q1 (alX0_writeNotes_b34 nv md Q1 n) a1 a2 a3 x4 x5 x6 x7 x8 A := ha
      unfold wX0_writeNotes_b34
      unfold aX0_writeNotes_b34 at ha
      refine ⟨fun c_1 => ?_, fun c_1 => ?_⟩
      · replace ha := ha.1 c_1
        refine EX4_setFigure h va3 ha (fun A_2 S h ha => ?_)
        exact hq _ _ h ha
      · replace ha := ha.2 c_1
        refine ⟨_, _, cX4 h va3, rfl, ?_⟩
        refine ⟨_, _, cX6 h va2, rfl, ?_⟩
        refine EX3_figure h (q_nv va2) ha (fun v_4 A_3 S h ha => ?_)
        refine ⟨_, _, cX6 h va2, rfl, ?_⟩
        refine EX3_figure h (q_nv va2) ha (fun v_6 A_5 S h ha => ?_)
        refine ⟨_, _, cX6 h va2, rfl, ?_⟩
        refine EX3_figure h (q_nv va2) ha (fun v_8 A_7 S h ha => ?_)
        refine EX6_pitchFor h va1 ha (fun v_10 A_9 S h ha => ?_)
        refine ⟨_, _, cX6 h va2, rfl, ?_⟩
        refine EX3_figure h (q_nv va2) ha (fun v_12 A_11 S h ha => ?_)
        refine EX6_spellingFor h va1 ha (fun v_14 A_13 S h ha => ?_)
        refine EX3_insert h (q_np va3) ha (fun A_15 S h ha => ?_)
        exact ih34 a1 a2 a3 x4 x5 x6 x7 (x8 + (1 : Int32)) va1 va2 va3 _ _ h ha
  unfold wX0_writeNotes
  unfold aX0_writeNotes at ha
  refine EX4_figure h va3 ha (fun v_17 A_16 S h ha => ?_)
  refine ⟨_, _, cX5 h, rfl, ?_⟩
  refine EX2_keyAt h ha (fun v_19 A_18 S h ha => ?_)
  refine ⟨_, _, cX6 h va2, rfl, ?_⟩
  refine EX3_size h (q_nv va2) ha (fun v_21 A_20 S h ha => ?_)
  exact j34 q_fuel a1 a2 a3 x4 v_17 v_19 v_21 (0 : Int32) va1 va2 va3 _ _ h ha
set_option maxHeartbeats 2000000 in
theorem EX0_addRowAt {ad : Nat → Nat} {nv : Nat} {md : Nat → Bool} {A : q_St} {S : q_S} {a1 : Nat} {a2 : Nat} {x3 : Int32} (h : Rep ad nv md A S) (va1 : q_VO nv a1) (va2 : q_PT md a2) {Q1 : Int32 → q_St → Prop} {Q2 : Int32 → q_S → Prop} (ha : aX0_addRowAt nv md a1 a2 x3 Q1 A) (hq : ∀ (r : Int32) (A : q_St) (S : q_S), Rep ad nv md A S → Q1 r A → Q2 r S) : wX0_addRowAt (ad 1) (ad a1) (ad a2) x3 Q2 S := by
  have j104 : ∀ (a1 : Nat) (a2 : Nat) (x5 : Int32) (x7 : Int32) (va1 : q_VO nv a1) (va2 : q_PT md a2) (A : q_St) (S : q_S), Rep ad nv md A S → aX0_addRowAt_b104 nv md Q1 a1 a2 x5 x7 A → wX0_addRowAt_b104 Q2 (ad 1) (ad a1) (ad a2) x5 x7 S := by
    intro a1 a2 x5 x7 va1 va2 A S h ha
    unfold wX0_addRowAt_b104
    unfold aX0_addRowAt_b104 at ha
    refine EX0_finishRow h va1 va2 ha (fun A_1 S h ha => ?_)
    exact hq _ _ _ h ha
  have j80 : ∀ (a1 : Nat) (a2 : Nat) (x4 : Int32) (x5 : Int32) (o6 : Option Nat) (x7 : Int32) (va1 : q_VO nv a1) (va2 : q_PT md a2) (vo6 : ∀ i, o6 = some i → q_VO nv i) (A : q_St) (S : q_S), Rep ad nv md A S → aX0_addRowAt_b80 nv md Q1 a1 a2 x4 x5 o6 x7 A → wX0_addRowAt_b80 Q2 (ad 1) (ad a1) (ad a2) x4 x5 (o6.map ad) x7 S := by
    intro a1 a2 x4 x5 o6 x7 va1 va2 vo6 A S h ha
    unfold wX0_addRowAt_b80
    unfold aX0_addRowAt_b80 at ha
    refine ⟨fun c_3 => ?_, fun _ c_3 => ?_⟩
    · replace ha := ha.1 (Option.map_eq_none_iff.mp c_3)
      exact j104 a1 a2 x5 x7 va1 va2 _ _ h ha
    · obtain ⟨a_2, dc_3, rfl⟩ := Option.map_eq_some_iff.mp c_3
      replace ha := ha.2 a_2 dc_3
      have va_2 := vo6 a_2 dc_3
      refine ⟨fun c_4 => ?_, fun c_4 => ?_⟩
      · replace ha := ha.1 c_4
        exact j104 a1 a2 x5 x7 va1 va2 _ _ h ha
      · replace ha := ha.2 c_4
        refine ⟨_, _, cX6 h va_2, rfl, ?_⟩
        refine EX4_setFigure h va2 ha (fun A_5 S h ha => ?_)
        exact j104 a1 a2 x5 x7 va1 va2 _ _ h ha
  have j54 : ∀ (a1 : Nat) (a2 : Nat) (x3 : Int32) (x4 : Int32) (x5 : Int32) (o6 : Option Nat) (va1 : q_VO nv a1) (va2 : q_PT md a2) (vo6 : ∀ i, o6 = some i → q_VO nv i) (A : q_St) (S : q_S), Rep ad nv md A S → aX0_addRowAt_b54 nv md Q1 a1 a2 x3 x4 x5 o6 A → wX0_addRowAt_b54 Q2 (ad 1) (ad a1) (ad a2) x3 x4 x5 (o6.map ad) S := by
    intro a1 a2 x3 x4 x5 o6 va1 va2 vo6 A S h ha
    unfold wX0_addRowAt_b54
    unfold aX0_addRowAt_b54 at ha
    refine EX4_addRow h va2 ha (fun v_7 A_6 S h ha => ?_)
    refine ⟨fun c_9 => ?_, fun _ c_9 => ?_⟩
    · replace ha := ha.1 (Option.map_eq_none_iff.mp c_9)
      exact j80 a1 a2 x4 x5 none v_7 va1 va2 q_vn _ _ h ha
    · obtain ⟨a_8, dc_9, rfl⟩ := Option.map_eq_some_iff.mp c_9
      replace ha := ha.2 a_8 dc_9
      have va_8 := vo6 a_8 dc_9
      refine EX0_writeNotes h va1 va_8 va2 ha (fun A_10 S h ha => ?_)
      exact j80 a1 a2 x4 x5 (some a_8) v_7 va1 va2 (q_vs va_8) _ _ h ha
  have j40 : ∀ (a1 : Nat) (a2 : Nat) (x3 : Int32) (x4 : Int32) (x5 : Int32) (o6 : Option Nat) (va1 : q_VO nv a1) (va2 : q_PT md a2) (vo6 : ∀ i, o6 = some i → q_VO nv i) (A : q_St) (S : q_S), Rep ad nv md A S → aX0_addRowAt_b40 nv md Q1 a1 a2 x3 x4 x5 o6 A → wX0_addRowAt_b40 Q2 (ad 1) (ad a1) (ad a2) x3 x4 x5 (o6.map ad) S := by
    intro a1 a2 x3 x4 x5 o6 va1 va2 vo6 A S h ha
    unfold wX0_addRowAt_b40
    unfold aX0_addRowAt_b40 at ha
    refine ⟨fun c_11 => ?_, fun c_11 => ?_⟩
    · replace ha := ha.1 c_11
      exact j54 a1 a2 x3 x4 x5 o6 va1 va2 vo6 _ _ h ha
    · replace ha := ha.2 c_11
      refine EX0_restLength h va1 ha (fun v_13 A_12 S h ha => ?_)
      exact j54 a1 a2 x3 x4 v_13 o6 va1 va2 vo6 _ _ h ha
  have j38 : ∀ (a1 : Nat) (a2 : Nat) (x3 : Int32) (x5 : Int32) (o6 : Option Nat) (y0 : Int32) (va1 : q_VO nv a1) (va2 : q_PT md a2) (vo6 : ∀ i, o6 = some i → q_VO nv i) (A : q_St) (S : q_S), Rep ad nv md A S → aX0_addRowAt_b38 nv md Q1 a1 a2 x3 x5 o6 y0 A → wX0_addRowAt_b38 Q2 (ad 1) (ad a1) (ad a2) x3 x5 (o6.map ad) y0 S := by
    intro a1 a2 x3 x5 o6 y0 va1 va2 vo6 A S h ha
    unfold wX0_addRowAt_b38
    unfold aX0_addRowAt_b38 at ha
    exact j40 a1 a2 x3 y0 x5 o6 va1 va2 vo6 _ _ h ha
  unfold wX0_addRowAt
  unfold aX0_addRowAt at ha
  refine ⟨_, _, cX6 h va1, rfl, ?_⟩
  refine EX3_size h (q_nv va1) ha (fun v_15 A_14 S h ha => ?_)
  refine ⟨fun c_16 => ?_, fun c_16 => ?_⟩
  · replace ha := ha.1 c_16
    exact j40 a1 a2 x3 (0 : Int32) (1 : Int32) (some a1) va1 va2 (q_vs va1) _ _ h ha
  · replace ha := ha.2 c_16
    refine EX5_cueFor h va1 ha (fun o_18 A_17 S wo_18 h ha => ?_)
    refine ⟨fun c_20 => ?_, fun _ c_20 => ?_⟩
    · replace ha := ha.1 (Option.map_eq_none_iff.mp c_20)
      exact j38 a1 a2 x3 (1 : Int32) none (1 : Int32) va1 va2 q_vn _ _ h ha
    · obtain ⟨a_19, dc_20, rfl⟩ := Option.map_eq_some_iff.mp c_20
      replace ha := ha.2 a_19 dc_20
      have va_19 := wo_18 a_19 dc_20
      exact j38 a1 a2 x3 (1 : Int32) (some a_19) (2 : Int32) va1 va2 (q_vs va_19) _ _ h ha
set_option maxHeartbeats 2000000 in
theorem EX0_make {ad : Nat → Nat} {nv : Nat} {md : Nat → Bool} {A : q_St} {S : q_S} {a1 : Nat} {a2 : Nat} (h : Rep ad nv md A S) (va1 : q_VO nv a1) (va2 : q_PT md a2) {Q1 : q_St → Prop} {Q2 : q_S → Prop} (ha : aX0_make nv md a1 a2 Q1 A) (hq : ∀ (A : q_St) (S : q_S), Rep ad nv md A S → Q1 A → Q2 S) : wX0_make (ad 1) (ad a1) (ad a2) Q2 S := by
  have j74 : ∀ (k47 : Nat → Nat → Int32 → Int32 → q_St → Prop) (m47 : Nat → Nat → Nat → Int32 → Int32 → q_S → Prop) (ih47 : ∀ (a1 : Nat) (a2 : Nat) (x3 : Int32) (x4 : Int32) (va1 : q_VO nv a1) (va2 : q_PT md a2) (A : q_St) (S : q_S), Rep ad nv md A S → k47 a1 a2 x3 x4 A → m47 (ad 1) (ad a1) (ad a2) x3 x4 S) (a1 : Nat) (a2 : Nat) (x3 : Int32) (x4 : Int32) (va1 : q_VO nv a1) (va2 : q_PT md a2) (A : q_St) (S : q_S), Rep ad nv md A S → aX0_make_b74 nv md Q1 k47 a1 a2 x3 x4 A → wX0_make_b74 Q2 m47 (ad 1) (ad a1) (ad a2) x3 x4 S := by
    intro k47 m47 ih47 a1 a2 x3 x4 va1 va2 A S h ha
    unfold wX0_make_b74
    unfold aX0_make_b74 at ha
    exact ih47 a1 a2 x3 (x4 + (1 : Int32)) va1 va2 _ _ h ha
  have j47 : ∀ (n : Nat), ∀ (a1 : Nat) (a2 : Nat) (x3 : Int32) (x4 : Int32) (va1 : q_VO nv a1) (va2 : q_PT md a2) (A : q_St) (S : q_S), Rep ad nv md A S → alX0_make_b47 nv md Q1 n a1 a2 x3 x4 A → lX0_make_b47 Q2 n (ad 1) (ad a1) (ad a2) x3 x4 S := by
    intro n
    induction n with
    | zero => intro a1 a2 x3 x4 va1 va2 A S h ha; exact absurd ha (fun h => h)
    | succ n ih47 =>
      intro a1 a2 x3 x4 va1 va2 A S h ha
      show wX0_make_b47 Q2 (lX0_make_b47 Q2 n) (ad 1) (ad a1) (ad a2) x3 x4 S
      have ha : aX0_make_b47 nv md Q1 (alX0_make_b47 nv md Q1 n) a1 a2 x3 x4 A := ha
      unfold wX0_make_b47
      unfold aX0_make_b47 at ha
      refine ⟨_, _, cX5 h, rfl, ?_⟩
      refine ⟨fun c_1 => ?_, fun c_1 => ?_⟩
      · replace ha := ha.1 c_1
        exact hq _ _ h ha
      · replace ha := ha.2 c_1
        refine ⟨fun c_2 => ?_, fun c_2 => ?_⟩
        · replace ha := ha.1 c_2
          exact j74 (alX0_make_b47 nv md Q1 n) _ ih47 a1 a2 x3 x4 va1 va2 _ _ h ha
        · replace ha := ha.2 c_2
          refine EX0_addRowAt h va1 va2 ha (fun v_4 A_3 S h ha => ?_)
          exact j74 (alX0_make_b47 nv md Q1 n) _ ih47 a1 a2 (x4 + v_4) x4 va1 va2 _ _ h ha
  have j44 : ∀ (a1 : Nat) (a2 : Nat) (x3 : Int32) (va1 : q_VO nv a1) (va2 : q_PT md a2) (A : q_St) (S : q_S), Rep ad nv md A S → aX0_make_b44 nv md Q1 a1 a2 x3 A → wX0_make_b44 Q2 (ad 1) (ad a1) (ad a2) x3 S := by
    intro a1 a2 x3 va1 va2 A S h ha
    unfold wX0_make_b44
    unfold aX0_make_b44 at ha
    exact j47 q_fuel a1 a2 x3 (0 : Int32) va1 va2 _ _ h ha
  unfold wX0_make
  unfold aX0_make at ha
  refine EX4_clear h va2 ha (fun A_5 S h ha => ?_)
  refine ⟨_, _, cX6 h va1, rfl, ?_⟩
  refine EX3_total h (q_nv va1) ha (fun v_7 A_6 S h ha => ?_)
  refine ⟨fun c_8 => ?_, fun c_8 => ?_⟩
  · replace ha := ha.1 c_8
    exact j44 a1 a2 (0 : Int32) va1 va2 _ _ h ha
  · replace ha := ha.2 c_8
    refine ⟨_, _, cX5 h, rfl, ?_⟩
    refine ⟨fun c_9 => ?_, fun c_9 => ?_⟩
    · replace ha := ha.1 c_9
      exact j44 a1 a2 (0 : Int32) va1 va2 _ _ h ha
    · replace ha := ha.2 c_9
      refine ⟨_, _, cX5 h, rfl, ?_⟩
      refine EX4_addRow h va2 ha (fun v_11 A_10 S h ha => ?_)
      refine EX0_finishRow h va1 va2 ha (fun A_12 S h ha => ?_)
      refine ⟨_, _, cX5 h, rfl, ?_⟩
      exact j44 a1 a2 (A_12 1 3) va1 va2 _ _ h ha
set_option maxHeartbeats 2000000 in
theorem EX5_partOf {ad : Nat → Nat} {nv : Nat} {md : Nat → Bool} {A : q_St} {S : q_S} {x1 : Int32} (h : Rep ad nv md A S) {Q1 : Option Nat → q_St → Prop} {Q2 : Option Nat → q_S → Prop} (ha : aX5_partOf nv md x1 Q1 A) (hq : ∀ (o : Option Nat) (A : q_St) (S : q_S), (∀ i, o = some i → q_PT md i) → Rep ad nv md A S → Q1 o A → Q2 (o.map ad) S) : wX5_partOf (ad 1) x1 Q2 S := by
  unfold wX5_partOf
  unfold aX5_partOf at ha
  refine ⟨⟨_, cX5 h⟩, ?_⟩
  refine EX5_voiceAt h ha (fun o_2 A_1 S wo_2 h ha => ?_)
  refine ⟨fun c_4 => ?_, fun _ c_4 => ?_⟩
  · replace ha := ha.1 (Option.map_eq_none_iff.mp c_4)
    exact hq none _ _ q_vn h ha
  · obtain ⟨a_3, dc_4, rfl⟩ := Option.map_eq_some_iff.mp c_4
    replace ha := ha.2 a_3 dc_4
    have va_3 := wo_2 a_3 dc_4
    refine ⟨_, _, cX6 h va_3, rfl, ?_⟩
    exact hq (pq md ((a_3 - 16) / 4)) _ _ (q_vp va_3 h.1) h ha
set_option maxHeartbeats 2000000 in
theorem EX7_row {ad : Nat → Nat} {nv : Nat} {md : Nat → Bool} {A : q_St} {S : q_S} {x1 : Int32} {x2 : Int32} {x3 : Int32} (h : Rep ad nv md A S) {Q1 : Int32 → q_St → Prop} {Q2 : Int32 → q_S → Prop} (ha : aX7_row nv md x1 x2 x3 Q1 A) (hq : ∀ (r : Int32) (A : q_St) (S : q_S), Rep ad nv md A S → Q1 r A → Q2 r S) : wX7_row (ad 0) x1 x2 x3 Q2 S := by
  unfold wX7_row
  unfold aX7_row at ha
  refine ⟨⟨_, cX7 h⟩, ?_⟩
  refine ⟨_, _, cX7 h, rfl, ?_⟩
  refine EX5_partOf h ha (fun o_2 A_1 S wo_2 h ha => ?_)
  refine ⟨fun c_4 => ?_, fun _ c_4 => ?_⟩
  · replace ha := ha.1 (Option.map_eq_none_iff.mp c_4)
    exact hq _ _ _ h ha
  · obtain ⟨a_3, dc_4, rfl⟩ := Option.map_eq_some_iff.mp c_4
    replace ha := ha.2 a_3 dc_4
    have va_3 := wo_2 a_3 dc_4
    refine EX4_hasRow h va_3 ha (fun v_6 A_5 S h ha => ?_)
    refine ⟨fun c_7 => ?_, fun c_7 => ?_⟩
    · replace ha := ha.1 c_7
      refine EX7_isWithin h ha (fun v_9 A_8 S h ha => ?_)
      refine ⟨fun c_10 => ?_, fun c_10 => ?_⟩
      · replace ha := ha.1 c_10
        refine EX4_figure h va_3 ha (fun v_12 A_11 S h ha => ?_)
        exact hq _ _ _ h ha
      · replace ha := ha.2 c_10
        exact hq _ _ _ h ha
    · replace ha := ha.2 c_7
      exact hq _ _ _ h ha
set_option maxHeartbeats 2000000 in
theorem EX7_written {ad : Nat → Nat} {nv : Nat} {md : Nat → Bool} {A : q_St} {S : q_S} {x1 : Int32} {x2 : Int32} {x3 : Int32} {x4 : Int32} (h : Rep ad nv md A S) {Q1 : Int32 → q_St → Prop} {Q2 : Int32 → q_S → Prop} (ha : aX7_written nv md x1 x2 x3 x4 Q1 A) (hq : ∀ (r : Int32) (A : q_St) (S : q_S), Rep ad nv md A S → Q1 r A → Q2 r S) : wX7_written (ad 0) x1 x2 x3 x4 Q2 S := by
  unfold wX7_written
  unfold aX7_written at ha
  refine ⟨⟨_, cX7 h⟩, ?_⟩
  refine ⟨_, _, cX7 h, rfl, ?_⟩
  refine EX5_partOf h ha (fun o_2 A_1 S wo_2 h ha => ?_)
  refine ⟨fun c_4 => ?_, fun _ c_4 => ?_⟩
  · replace ha := ha.1 (Option.map_eq_none_iff.mp c_4)
    exact hq _ _ _ h ha
  · obtain ⟨a_3, dc_4, rfl⟩ := Option.map_eq_some_iff.mp c_4
    replace ha := ha.2 a_3 dc_4
    have va_3 := wo_2 a_3 dc_4
    refine EX4_hasRow h va_3 ha (fun v_6 A_5 S h ha => ?_)
    refine ⟨fun c_7 => ?_, fun c_7 => ?_⟩
    · replace ha := ha.1 c_7
      exact hq _ _ _ h ha
    · replace ha := ha.2 c_7
      refine ⟨_, _, cX4 h va_3, rfl, ?_⟩
      refine EX3_size h (q_np va_3) ha (fun v_9 A_8 S h ha => ?_)
      refine EX7_isWithin h ha (fun v_11 A_10 S h ha => ?_)
      refine ⟨fun c_12 => ?_, fun c_12 => ?_⟩
      · replace ha := ha.1 c_12
        refine EX7_isWithin h ha (fun v_14 A_13 S h ha => ?_)
        refine ⟨fun c_15 => ?_, fun c_15 => ?_⟩
        · replace ha := ha.1 c_15
          refine ⟨_, _, cX4 h va_3, rfl, ?_⟩
          refine EX3_figure h (q_np va_3) ha (fun v_17 A_16 S h ha => ?_)
          exact hq _ _ _ h ha
        · replace ha := ha.2 c_15
          exact hq _ _ _ h ha
      · replace ha := ha.2 c_12
        exact hq _ _ _ h ha
set_option maxHeartbeats 2000000 in
theorem EX3_isAlike {ad : Nat → Nat} {nv : Nat} {md : Nat → Bool} {A : q_St} {S : q_S} {a0 : Nat} {a1 : Nat} {x2 : Int32} (h : Rep ad nv md A S) (va0 : q_NT nv md a0) (va1 : q_NT nv md a1) {Q1 : Int32 → q_St → Prop} {Q2 : Int32 → q_S → Prop} (ha : aX3_isAlike nv md a0 a1 x2 Q1 A) (hq : ∀ (r : Int32) (A : q_St) (S : q_S), Rep ad nv md A S → Q1 r A → Q2 r S) : wX3_isAlike (ad a0) (ad a1) x2 Q2 S := by
  have j29 : ∀ (k17 : Nat → Nat → Int32 → Int32 → q_St → Prop) (m17 : Nat → Nat → Int32 → Int32 → q_S → Prop) (ih17 : ∀ (a0 : Nat) (a1 : Nat) (x2 : Int32) (x3 : Int32) (va0 : q_NT nv md a0) (va1 : q_NT nv md a1) (A : q_St) (S : q_S), Rep ad nv md A S → k17 a0 a1 x2 x3 A → m17 (ad a0) (ad a1) x2 x3 S) (n : Nat), ∀ (a0 : Nat) (a1 : Nat) (x2 : Int32) (x3 : Int32) (x4 : Int32) (va0 : q_NT nv md a0) (va1 : q_NT nv md a1) (A : q_St) (S : q_S), Rep ad nv md A S → alX3_isAlike_b29 nv md Q1 k17 n a0 a1 x2 x3 x4 A → lX3_isAlike_b29 Q2 m17 n (ad a0) (ad a1) x2 x3 x4 S := by
    intro k17 m17 ih17
    intro n
    induction n with
    | zero => intro a0 a1 x2 x3 x4 va0 va1 A S h ha; exact absurd ha (fun h => h)
    | succ n ih29 =>
      intro a0 a1 x2 x3 x4 va0 va1 A S h ha
      show wX3_isAlike_b29 Q2 m17 (lX3_isAlike_b29 Q2 m17 n) (ad a0) (ad a1) x2 x3 x4 S
      have ha : aX3_isAlike_b29 nv md Q1 k17 (alX3_isAlike_b29 nv md Q1 k17 n) a0 a1 x2 x3 x4 A := ha
      unfold wX3_isAlike_b29
      unfold aX3_isAlike_b29 at ha
      refine ⟨fun c_1 => ?_, fun c_1 => ?_⟩
      · replace ha := ha.1 c_1
        exact ih17 a0 a1 x2 (x3 + (1 : Int32)) va0 va1 _ _ h ha
      · replace ha := ha.2 c_1
        refine EX3_figure h va0 ha (fun v_3 A_2 S h ha => ?_)
        refine EX3_figure h va1 ha (fun v_5 A_4 S h ha => ?_)
        refine ⟨fun c_6 => ?_, fun c_6 => ?_⟩
        · replace ha := ha.1 c_6
          exact ih29 a0 a1 x2 x3 (x4 + (1 : Int32)) va0 va1 _ _ h ha
        · replace ha := ha.2 c_6
          exact ⟨ha.1, hq _ _ _ h ha.2⟩
  have j17 : ∀ (n : Nat), ∀ (a0 : Nat) (a1 : Nat) (x2 : Int32) (x3 : Int32) (va0 : q_NT nv md a0) (va1 : q_NT nv md a1) (A : q_St) (S : q_S), Rep ad nv md A S → alX3_isAlike_b17 nv md Q1 n a0 a1 x2 x3 A → lX3_isAlike_b17 Q2 n (ad a0) (ad a1) x2 x3 S := by
    intro n
    induction n with
    | zero => intro a0 a1 x2 x3 va0 va1 A S h ha; exact absurd ha (fun h => h)
    | succ n ih17 =>
      intro a0 a1 x2 x3 va0 va1 A S h ha
      show wX3_isAlike_b17 Q2 (lX3_isAlike_b17 Q2 n) (ad a0) (ad a1) x2 x3 S
      have ha : aX3_isAlike_b17 nv md Q1 (alX3_isAlike_b17 nv md Q1 n) a0 a1 x2 x3 A := ha
      unfold wX3_isAlike_b17
      unfold aX3_isAlike_b17 at ha
      refine EX3_size h va0 ha (fun v_8 A_7 S h ha => ?_)
      refine ⟨fun c_9 => ?_, fun c_9 => ?_⟩
      · replace ha := ha.1 c_9
        exact ⟨ha.1, hq _ _ _ h ha.2⟩
      · replace ha := ha.2 c_9
        exact j29 (alX3_isAlike_b17 nv md Q1 n) _ ih17 q_fuel a0 a1 x2 x3 (0 : Int32) va0 va1 _ _ h ha
  unfold wX3_isAlike
  unfold aX3_isAlike at ha
  refine ⟨⟨_, cX3 h va0⟩, ?_⟩
  refine EX3_size h va0 ha (fun v_11 A_10 S h ha => ?_)
  refine EX3_size h va1 ha (fun v_13 A_12 S h ha => ?_)
  refine ⟨fun c_14 => ?_, fun c_14 => ?_⟩
  · replace ha := ha.1 c_14
    exact j17 q_fuel a0 a1 x2 (0 : Int32) va0 va1 _ _ h ha
  · replace ha := ha.2 c_14
    exact ⟨ha.1, hq _ _ _ h ha.2⟩
set_option maxHeartbeats 2000000 in
theorem EX4_isRowAlike {ad : Nat → Nat} {nv : Nat} {md : Nat → Bool} {A : q_St} {S : q_S} {a0 : Nat} {a1 : Nat} {x2 : Int32} (h : Rep ad nv md A S) (va0 : q_PT md a0) (va1 : q_PT md a1) {Q1 : Int32 → q_St → Prop} {Q2 : Int32 → q_S → Prop} (ha : aX4_isRowAlike nv md a0 a1 x2 Q1 A) (hq : ∀ (r : Int32) (A : q_St) (S : q_S), Rep ad nv md A S → Q1 r A → Q2 r S) : wX4_isRowAlike (ad a0) (ad a1) x2 Q2 S := by
  have j2 : ∀ (n : Nat), ∀ (a0 : Nat) (a1 : Nat) (x2 : Int32) (x3 : Int32) (va0 : q_PT md a0) (va1 : q_PT md a1) (A : q_St) (S : q_S), Rep ad nv md A S → alX4_isRowAlike_b2 nv md Q1 n a0 a1 x2 x3 A → lX4_isRowAlike_b2 Q2 n (ad a0) (ad a1) x2 x3 S := by
    intro n
    induction n with
    | zero => intro a0 a1 x2 x3 va0 va1 A S h ha; exact absurd ha (fun h => h)
    | succ n ih2 =>
      intro a0 a1 x2 x3 va0 va1 A S h ha
      show wX4_isRowAlike_b2 Q2 (lX4_isRowAlike_b2 Q2 n) (ad a0) (ad a1) x2 x3 S
      have ha : aX4_isRowAlike_b2 nv md Q1 (alX4_isRowAlike_b2 nv md Q1 n) a0 a1 x2 x3 A := ha
      unfold wX4_isRowAlike_b2
      unfold aX4_isRowAlike_b2 at ha
      refine ⟨fun c_1 => ?_, fun c_1 => ?_⟩
      · replace ha := ha.1 c_1
        refine ⟨_, _, cX4 h va0, rfl, ?_⟩
        refine ⟨_, _, cX4 h va1, rfl, ?_⟩
        refine EX3_isAlike h (q_np va0) (q_np va1) ha (fun v_3 A_2 S h ha => ?_)
        exact ⟨ha.1, hq _ _ _ h ha.2⟩
      · replace ha := ha.2 c_1
        refine EX4_figure h va0 ha (fun v_5 A_4 S h ha => ?_)
        refine EX4_figure h va1 ha (fun v_7 A_6 S h ha => ?_)
        refine ⟨fun c_8 => ?_, fun c_8 => ?_⟩
        · replace ha := ha.1 c_8
          exact ih2 a0 a1 x2 (x3 + (1 : Int32)) va0 va1 _ _ h ha
        · replace ha := ha.2 c_8
          exact ⟨ha.1, hq _ _ _ h ha.2⟩
  unfold wX4_isRowAlike
  unfold aX4_isRowAlike at ha
  refine ⟨⟨_, cX4 h va0⟩, ?_⟩
  exact j2 q_fuel a0 a1 x2 (0 : Int32) va0 va1 _ _ h ha
set_option maxHeartbeats 2000000 in
theorem EX4_firstUnlike {ad : Nat → Nat} {nv : Nat} {md : Nat → Bool} {A : q_St} {S : q_S} {a0 : Nat} {a1 : Nat} (h : Rep ad nv md A S) (va0 : q_PT md a0) (va1 : q_PT md a1) {Q1 : Int32 → q_St → Prop} {Q2 : Int32 → q_S → Prop} (ha : aX4_firstUnlike nv md a0 a1 Q1 A) (hq : ∀ (r : Int32) (A : q_St) (S : q_S), Rep ad nv md A S → Q1 r A → Q2 r S) : wX4_firstUnlike (ad a0) (ad a1) Q2 S := by
  have j14 : ∀ (n : Nat), ∀ (a0 : Nat) (a1 : Nat) (x2 : Int32) (x3 : Int32) (va0 : q_PT md a0) (va1 : q_PT md a1) (A : q_St) (S : q_S), Rep ad nv md A S → alX4_firstUnlike_b14 nv md Q1 n a0 a1 x2 x3 A → lX4_firstUnlike_b14 Q2 n (ad a0) (ad a1) x2 x3 S := by
    intro n
    induction n with
    | zero => intro a0 a1 x2 x3 va0 va1 A S h ha; exact absurd ha (fun h => h)
    | succ n ih14 =>
      intro a0 a1 x2 x3 va0 va1 A S h ha
      show wX4_firstUnlike_b14 Q2 (lX4_firstUnlike_b14 Q2 n) (ad a0) (ad a1) x2 x3 S
      have ha : aX4_firstUnlike_b14 nv md Q1 (alX4_firstUnlike_b14 nv md Q1 n) a0 a1 x2 x3 A := ha
      unfold wX4_firstUnlike_b14
      unfold aX4_firstUnlike_b14 at ha
      refine ⟨fun c_1 => ?_, fun c_1 => ?_⟩
      · replace ha := ha.1 c_1
        exact hq _ _ _ h ha
      · replace ha := ha.2 c_1
        refine EX4_hasRow h va0 ha (fun v_3 A_2 S h ha => ?_)
        refine ⟨fun c_4 => ?_, fun c_4 => ?_⟩
        · replace ha := ha.1 c_4
          exact hq _ _ _ h ha
        · replace ha := ha.2 c_4
          refine EX4_hasRow h va1 ha (fun v_6 A_5 S h ha => ?_)
          refine ⟨fun c_7 => ?_, fun c_7 => ?_⟩
          · replace ha := ha.1 c_7
            exact hq _ _ _ h ha
          · replace ha := ha.2 c_7
            refine EX4_isRowAlike h va0 va1 ha (fun v_9 A_8 S h ha => ?_)
            refine ⟨fun c_10 => ?_, fun c_10 => ?_⟩
            · replace ha := ha.1 c_10
              exact ih14 a0 a1 x2 (x3 + (1 : Int32)) va0 va1 _ _ h ha
            · replace ha := ha.2 c_10
              exact hq _ _ _ h ha
  unfold wX4_firstUnlike
  unfold aX4_firstUnlike at ha
  refine ⟨⟨_, cX4 h va0⟩, ?_⟩
  refine ⟨_, _, cX4 h va0, rfl, ?_⟩
  refine ⟨_, _, cX4 h va1, rfl, ?_⟩
  exact j14 q_fuel a0 a1 (if (A a0 2) < (A a1 2) then (A a1 2) else (A a0 2)) (0 : Int32) va0 va1 _ _ h ha
set_option maxHeartbeats 2000000 in
theorem EX7_unlike {ad : Nat → Nat} {nv : Nat} {md : Nat → Bool} {A : q_St} {S : q_S} {x1 : Int32} (h : Rep ad nv md A S) {Q1 : Int32 → q_St → Prop} {Q2 : Int32 → q_S → Prop} (ha : aX7_unlike nv md x1 Q1 A) (hq : ∀ (r : Int32) (A : q_St) (S : q_S), Rep ad nv md A S → Q1 r A → Q2 r S) : wX7_unlike (ad 0) x1 Q2 S := by
  unfold wX7_unlike
  unfold aX7_unlike at ha
  refine ⟨⟨_, cX7 h⟩, ?_⟩
  refine ⟨_, _, cX7 h, rfl, ?_⟩
  refine EX5_voiceAt h ha (fun o_2 A_1 S wo_2 h ha => ?_)
  refine ⟨_, _, cX7 h, rfl, ?_⟩
  refine EX5_partOf h ha (fun o_4 A_3 S wo_4 h ha => ?_)
  refine ⟨fun c_6 => ?_, fun _ c_6 => ?_⟩
  · replace ha := ha.1 (Option.map_eq_none_iff.mp c_6)
    exact hq _ _ _ h ha
  · obtain ⟨a_5, dc_6, rfl⟩ := Option.map_eq_some_iff.mp c_6
    replace ha := ha.2 a_5 dc_6
    have va_5 := wo_2 a_5 dc_6
    refine ⟨fun c_8 => ?_, fun _ c_8 => ?_⟩
    · replace ha := ha.1 (Option.map_eq_none_iff.mp c_8)
      exact hq _ _ _ h ha
    · obtain ⟨a_7, dc_8, rfl⟩ := Option.map_eq_some_iff.mp c_8
      replace ha := ha.2 a_7 dc_8
      have va_7 := wo_4 a_7 dc_8
      refine ⟨_, _, cX7 h, rfl, ?_⟩
      refine ⟨_, _, cX7 h, rfl, ?_⟩
      refine EX0_make h va_5 q_p94 ha (fun A_9 S h ha => ?_)
      refine ⟨_, _, cX7 h, rfl, ?_⟩
      refine EX4_firstUnlike h va_7 q_p94 ha (fun v_11 A_10 S h ha => ?_)
      exact hq _ _ _ h ha
set_option maxHeartbeats 2000000 in
theorem EX1_beginSystem {ad : Nat → Nat} {nv : Nat} {md : Nat → Bool} {A : q_St} {S : q_S} {a0 : Nat} {x1 : Int32} (h : Rep ad nv md A S) (va0 : q_LY a0) {Q1 : q_St → Prop} {Q2 : q_S → Prop} (ha : aX1_beginSystem nv md a0 x1 Q1 A) (hq : ∀ (A : q_St) (S : q_S), Rep ad nv md A S → Q1 A → Q2 S) : wX1_beginSystem (ad a0) x1 Q2 S := by
  unfold wX1_beginSystem
  unfold aX1_beginSystem at ha
  refine ⟨⟨_, cX1 h va0⟩, ?_⟩
  refine ⟨_, _, cX1 h va0, rfl, ?_⟩
  refine ⟨fun c_1 => ?_, fun c_1 => ?_⟩
  · replace ha := ha.1 c_1
    exact hq _ _ h ha
  · replace ha := ha.2 c_1
    refine ⟨_, _, cX1 h va0, rfl, ?_⟩
    refine ⟨_, _, cX1 h va0, rfl, ?_⟩
    refine e_s h (isaX1_systemRows va0) ha (fun A_2 S h ha => ?_)
    refine ⟨_, _, cX1 h va0, rfl, ?_⟩
    refine e_pX1_2 h va0 ha (fun A_3 S h ha => ?_)
    exact hq _ _ h ha
set_option maxHeartbeats 2000000 in
theorem EX1_fillSystems {ad : Nat → Nat} {nv : Nat} {md : Nat → Bool} {A : q_St} {S : q_S} {a0 : Nat} {a1 : Nat} {x2 : Int32} (h : Rep ad nv md A S) (va0 : q_LY a0) (va1 : q_PT md a1) {Q1 : q_St → Prop} {Q2 : q_S → Prop} (ha : aX1_fillSystems nv md a0 a1 x2 Q1 A) (hq : ∀ (A : q_St) (S : q_S), Rep ad nv md A S → Q1 A → Q2 S) : wX1_fillSystems (ad a0) (ad a1) x2 Q2 S := by
  have j67 : ∀ (a0 : Nat) (a1 : Nat) (va0 : q_LY a0) (va1 : q_PT md a1) (A : q_St) (S : q_S), Rep ad nv md A S → aX1_fillSystems_b67 nv md Q1 a0 a1 A → wX1_fillSystems_b67 Q2 (ad a0) (ad a1) S := by
    intro a0 a1 va0 va1 A S h ha
    unfold wX1_fillSystems_b67
    unfold aX1_fillSystems_b67 at ha
    refine ⟨_, _, cX1 h va0, rfl, ?_⟩
    refine ⟨_, _, cX1 h va0, rfl, ?_⟩
    refine ⟨_, _, cX4 h va1, rfl, ?_⟩
    refine e_s h (isaX1_systemRows va0) ha (fun A_1 S h ha => ?_)
    exact hq _ _ h ha
  have j56 : ∀ (k10 : Nat → Nat → Int32 → Int32 → Int32 → q_St → Prop) (m10 : Nat → Nat → Int32 → Int32 → Int32 → q_S → Prop) (ih10 : ∀ (a0 : Nat) (a1 : Nat) (x2 : Int32) (x3 : Int32) (x4 : Int32) (va0 : q_LY a0) (va1 : q_PT md a1) (A : q_St) (S : q_S), Rep ad nv md A S → k10 a0 a1 x2 x3 x4 A → m10 (ad a0) (ad a1) x2 x3 x4 S) (a0 : Nat) (a1 : Nat) (x2 : Int32) (x3 : Int32) (x4 : Int32) (x5 : Int32) (va0 : q_LY a0) (va1 : q_PT md a1) (A : q_St) (S : q_S), Rep ad nv md A S → aX1_fillSystems_b56 nv md Q1 k10 a0 a1 x2 x3 x4 x5 A → wX1_fillSystems_b56 Q2 m10 (ad a0) (ad a1) x2 x3 x4 x5 S := by
    intro k10 m10 ih10 a0 a1 x2 x3 x4 x5 va0 va1 A S h ha
    unfold wX1_fillSystems_b56
    unfold aX1_fillSystems_b56 at ha
    exact ih10 a0 a1 x2 (x3 + x5) (x4 + (1 : Int32)) va0 va1 _ _ h ha
  have j48 : ∀ (k10 : Nat → Nat → Int32 → Int32 → Int32 → q_St → Prop) (m10 : Nat → Nat → Int32 → Int32 → Int32 → q_S → Prop) (ih10 : ∀ (a0 : Nat) (a1 : Nat) (x2 : Int32) (x3 : Int32) (x4 : Int32) (va0 : q_LY a0) (va1 : q_PT md a1) (A : q_St) (S : q_S), Rep ad nv md A S → k10 a0 a1 x2 x3 x4 A → m10 (ad a0) (ad a1) x2 x3 x4 S) (a0 : Nat) (a1 : Nat) (x2 : Int32) (x4 : Int32) (x5 : Int32) (va0 : q_LY a0) (va1 : q_PT md a1) (A : q_St) (S : q_S), Rep ad nv md A S → aX1_fillSystems_b48 nv md Q1 k10 a0 a1 x2 x4 x5 A → wX1_fillSystems_b48 Q2 m10 (ad a0) (ad a1) x2 x4 x5 S := by
    intro k10 m10 ih10 a0 a1 x2 x4 x5 va0 va1 A S h ha
    unfold wX1_fillSystems_b48
    unfold aX1_fillSystems_b48 at ha
    refine EX1_beginSystem h va0 ha (fun A_2 S h ha => ?_)
    exact j56 k10 _ ih10 a0 a1 x2 (0 : Int32) x4 x5 va0 va1 _ _ h ha
  have j10 : ∀ (n : Nat), ∀ (a0 : Nat) (a1 : Nat) (x2 : Int32) (x3 : Int32) (x4 : Int32) (va0 : q_LY a0) (va1 : q_PT md a1) (A : q_St) (S : q_S), Rep ad nv md A S → alX1_fillSystems_b10 nv md Q1 n a0 a1 x2 x3 x4 A → lX1_fillSystems_b10 Q2 n (ad a0) (ad a1) x2 x3 x4 S := by
    intro n
    induction n with
    | zero => intro a0 a1 x2 x3 x4 va0 va1 A S h ha; exact absurd ha (fun h => h)
    | succ n ih10 =>
      intro a0 a1 x2 x3 x4 va0 va1 A S h ha
      show wX1_fillSystems_b10 Q2 (lX1_fillSystems_b10 Q2 n) (ad a0) (ad a1) x2 x3 x4 S
      have ha : aX1_fillSystems_b10 nv md Q1 (alX1_fillSystems_b10 nv md Q1 n) a0 a1 x2 x3 x4 A := ha
      unfold wX1_fillSystems_b10
      unfold aX1_fillSystems_b10 at ha
      refine ⟨_, _, cX4 h va1, rfl, ?_⟩
      refine ⟨fun c_3 => ?_, fun c_3 => ?_⟩
      · replace ha := ha.1 c_3
        exact j67 a0 a1 va0 va1 _ _ h ha
      · replace ha := ha.2 c_3
        refine ⟨fun c_4 => ?_, fun c_4 => ?_⟩
        · replace ha := ha.1 c_4
          exact j67 a0 a1 va0 va1 _ _ h ha
        · replace ha := ha.2 c_4
          refine EX4_figure h va1 ha (fun v_6 A_5 S h ha => ?_)
          refine ⟨fun c_7 => ?_, fun c_7 => ?_⟩
          · replace ha := ha.1 c_7
            exact j48 (alX1_fillSystems_b10 nv md Q1 n) _ ih10 a0 a1 x2 x4 v_6 va0 va1 _ _ h ha
          · replace ha := ha.2 c_7
            refine ⟨fun c_8 => ?_, fun c_8 => ?_⟩
            · replace ha := ha.1 c_8
              exact j56 (alX1_fillSystems_b10 nv md Q1 n) _ ih10 a0 a1 x2 x3 x4 v_6 va0 va1 _ _ h ha
            · replace ha := ha.2 c_8
              exact j48 (alX1_fillSystems_b10 nv md Q1 n) _ ih10 a0 a1 x2 x4 v_6 va0 va1 _ _ h ha
  unfold wX1_fillSystems
  unfold aX1_fillSystems at ha
  refine ⟨⟨_, cX1 h va0⟩, ?_⟩
  refine e_pX1_2 h va0 ha (fun A_9 S h ha => ?_)
  exact j10 q_fuel a0 a1 x2 (0 : Int32) (0 : Int32) va0 va1 _ _ h ha
set_option maxHeartbeats 2000000 in
theorem EX1_rowAt {ad : Nat → Nat} {nv : Nat} {md : Nat → Bool} {A : q_St} {S : q_S} {a0 : Nat} {x1 : Int32} (h : Rep ad nv md A S) (va0 : q_LY a0) {Q1 : Int32 → q_St → Prop} {Q2 : Int32 → q_S → Prop} (ha : aX1_rowAt nv md a0 x1 Q1 A) (hq : ∀ (r : Int32) (A : q_St) (S : q_S), Rep ad nv md A S → Q1 r A → Q2 r S) : wX1_rowAt (ad a0) x1 Q2 S := by
  unfold wX1_rowAt
  unfold aX1_rowAt at ha
  refine ⟨⟨_, cX1 h va0⟩, ?_⟩
  refine ⟨fun c_1 => ?_, fun c_1 => ?_⟩
  · replace ha := ha.1 c_1
    exact hq _ _ _ h ha
  · replace ha := ha.2 c_1
    refine ⟨_, _, cX1 h va0, rfl, ?_⟩
    refine ⟨fun c_2 => ?_, fun c_2 => ?_⟩
    · replace ha := ha.1 c_2
      exact hq _ _ _ h ha
    · replace ha := ha.2 c_2
      refine ⟨_, _, cX1 h va0, rfl, ?_⟩
      refine e_l h (isaX1_systemRows va0) ha (fun ha => ?_)
      exact hq _ _ _ h ha
set_option maxHeartbeats 2000000 in
theorem EX1_putPage {ad : Nat → Nat} {nv : Nat} {md : Nat → Bool} {A : q_St} {S : q_S} {a0 : Nat} {x1 : Int32} {x2 : Int32} {x3 : Int32} (h : Rep ad nv md A S) (va0 : q_LY a0) {Q1 : q_St → Prop} {Q2 : q_S → Prop} (ha : aX1_putPage nv md a0 x1 x2 x3 Q1 A) (hq : ∀ (A : q_St) (S : q_S), Rep ad nv md A S → Q1 A → Q2 S) : wX1_putPage (ad a0) x1 x2 x3 Q2 S := by
  unfold wX1_putPage
  unfold aX1_putPage at ha
  refine ⟨⟨_, cX1 h va0⟩, ?_⟩
  refine ⟨_, _, cX1 h va0, rfl, ?_⟩
  refine ⟨fun c_1 => ?_, fun c_1 => ?_⟩
  · replace ha := ha.1 c_1
    refine ⟨_, _, cX1 h va0, rfl, ?_⟩
    refine ⟨_, _, cX1 h va0, rfl, ?_⟩
    refine e_pX1_3 h va0 ha (fun A_2 S h ha => ?_)
    refine ⟨_, _, cX1 h va0, rfl, ?_⟩
    refine EX1_rowAt h va0 ha (fun v_4 A_3 S h ha => ?_)
    refine e_s h (isaX1_figures va0) ha (fun A_5 S h ha => ?_)
    refine ⟨_, _, cX1 h va0, rfl, ?_⟩
    refine EX1_rowAt h va0 ha (fun v_7 A_6 S h ha => ?_)
    refine EX1_rowAt h va0 ha (fun v_9 A_8 S h ha => ?_)
    refine e_s h (isaX1_figures va0) ha (fun A_10 S h ha => ?_)
    refine ⟨_, _, cX1 h va0, rfl, ?_⟩
    refine e_s h (isaX1_figures va0) ha (fun A_11 S h ha => ?_)
    refine ⟨_, _, cX1 h va0, rfl, ?_⟩
    refine e_s h (isaX1_figures va0) ha (fun A_12 S h ha => ?_)
    exact hq _ _ h ha
  · replace ha := ha.2 c_1
    exact hq _ _ h ha
set_option maxHeartbeats 2000000 in
theorem EX4_isLongRest {ad : Nat → Nat} {nv : Nat} {md : Nat → Bool} {A : q_St} {S : q_S} {a0 : Nat} {x1 : Int32} (h : Rep ad nv md A S) (va0 : q_PT md a0) {Q1 : Int32 → q_St → Prop} {Q2 : Int32 → q_S → Prop} (ha : aX4_isLongRest nv md a0 x1 Q1 A) (hq : ∀ (r : Int32) (A : q_St) (S : q_S), Rep ad nv md A S → Q1 r A → Q2 r S) : wX4_isLongRest (ad a0) x1 Q2 S := by
  unfold wX4_isLongRest
  unfold aX4_isLongRest at ha
  refine ⟨⟨_, cX4 h va0⟩, ?_⟩
  refine ⟨fun c_1 => ?_, fun c_1 => ?_⟩
  · replace ha := ha.1 c_1
    exact ⟨ha.1, hq _ _ _ h ha.2⟩
  · replace ha := ha.2 c_1
    refine ⟨_, _, cX4 h va0, rfl, ?_⟩
    refine ⟨fun c_2 => ?_, fun c_2 => ?_⟩
    · replace ha := ha.1 c_2
      exact ⟨ha.1, hq _ _ _ h ha.2⟩
    · replace ha := ha.2 c_2
      refine ⟨_, _, cX4 h va0, rfl, ?_⟩
      refine e_l h (isaX4_figures va0) ha (fun ha => ?_)
      refine ⟨fun c_3 => ?_, fun c_3 => ?_⟩
      · replace ha := ha.1 c_3
        exact ⟨ha.1, hq _ _ _ h ha.2⟩
      · replace ha := ha.2 c_3
        refine ⟨_, _, cX4 h va0, rfl, ?_⟩
        refine e_l h (isaX4_figures va0) ha (fun ha => ?_)
        refine ⟨fun c_4 => ?_, fun c_4 => ?_⟩
        · replace ha := ha.1 c_4
          exact ⟨ha.1, hq _ _ _ h ha.2⟩
        · replace ha := ha.2 c_4
          exact ⟨ha.1, hq _ _ _ h ha.2⟩
set_option maxHeartbeats 2000000 in
theorem EX1_turnsWell {ad : Nat → Nat} {nv : Nat} {md : Nat → Bool} {A : q_St} {S : q_S} {a0 : Nat} {a1 : Nat} {x2 : Int32} (h : Rep ad nv md A S) (va0 : q_LY a0) (va1 : q_PT md a1) {Q1 : Int32 → q_St → Prop} {Q2 : Int32 → q_S → Prop} (ha : aX1_turnsWell nv md a0 a1 x2 Q1 A) (hq : ∀ (r : Int32) (A : q_St) (S : q_S), Rep ad nv md A S → Q1 r A → Q2 r S) : wX1_turnsWell (ad a0) (ad a1) x2 Q2 S := by
  have j24 : ∀ (A : q_St) (S : q_S), Rep ad nv md A S → aX1_turnsWell_b24 nv md Q1 A → wX1_turnsWell_b24 Q2 S := by
    intro A S h ha
    unfold wX1_turnsWell_b24
    unfold aX1_turnsWell_b24 at ha
    exact ⟨ha.1, hq _ _ _ h ha.2⟩
  unfold wX1_turnsWell
  unfold aX1_turnsWell at ha
  refine ⟨⟨_, cX1 h va0⟩, ?_⟩
  refine EX1_rowAt h va0 ha (fun v_2 A_1 S h ha => ?_)
  refine EX4_isLongRest h va1 ha (fun v_4 A_3 S h ha => ?_)
  refine ⟨fun c_5 => ?_, fun c_5 => ?_⟩
  · replace ha := ha.1 c_5
    exact j24 _ _ h ha
  · replace ha := ha.2 c_5
    refine EX4_isLongRest h va1 ha (fun v_7 A_6 S h ha => ?_)
    refine ⟨fun c_8 => ?_, fun c_8 => ?_⟩
    · replace ha := ha.1 c_8
      exact ⟨ha.1, hq _ _ _ h ha.2⟩
    · replace ha := ha.2 c_8
      exact j24 _ _ h ha
set_option maxHeartbeats 2000000 in
theorem EX1_addPage {ad : Nat → Nat} {nv : Nat} {md : Nat → Bool} {A : q_St} {S : q_S} {a0 : Nat} {a1 : Nat} {x2 : Int32} {x3 : Int32} (h : Rep ad nv md A S) (va0 : q_LY a0) (va1 : q_PT md a1) {Q1 : Int32 → q_St → Prop} {Q2 : Int32 → q_S → Prop} (ha : aX1_addPage nv md a0 a1 x2 x3 Q1 A) (hq : ∀ (r : Int32) (A : q_St) (S : q_S), Rep ad nv md A S → Q1 r A → Q2 r S) : wX1_addPage (ad a0) (ad a1) x2 x3 Q2 S := by
  have j71 : ∀ (a0 : Nat) (x2 : Int32) (x3 : Int32) (va0 : q_LY a0) (A : q_St) (S : q_S), Rep ad nv md A S → aX1_addPage_b71 nv md Q1 a0 x2 x3 A → wX1_addPage_b71 Q2 (ad a0) x2 x3 S := by
    intro a0 x2 x3 va0 A S h ha
    unfold wX1_addPage_b71
    unfold aX1_addPage_b71 at ha
    refine EX1_putPage h va0 ha (fun A_1 S h ha => ?_)
    exact hq _ _ _ h ha
  have j28 : ∀ (n : Nat), ∀ (a0 : Nat) (a1 : Nat) (x2 : Int32) (x3 : Int32) (x5 : Int32) (va0 : q_LY a0) (va1 : q_PT md a1) (A : q_St) (S : q_S), Rep ad nv md A S → alX1_addPage_b28 nv md Q1 n a0 a1 x2 x3 x5 A → lX1_addPage_b28 Q2 n (ad a0) (ad a1) x2 x3 x5 S := by
    intro n
    induction n with
    | zero => intro a0 a1 x2 x3 x5 va0 va1 A S h ha; exact absurd ha (fun h => h)
    | succ n ih28 =>
      intro a0 a1 x2 x3 x5 va0 va1 A S h ha
      show wX1_addPage_b28 Q2 (lX1_addPage_b28 Q2 n) (ad a0) (ad a1) x2 x3 x5 S
      have ha : aX1_addPage_b28 nv md Q1 (alX1_addPage_b28 nv md Q1 n) a0 a1 x2 x3 x5 A := ha
      unfold wX1_addPage_b28
      unfold aX1_addPage_b28 at ha
      refine ⟨fun c_2 => ?_, fun c_2 => ?_⟩
      · replace ha := ha.1 c_2
        exact j71 a0 x2 x3 va0 _ _ h ha
      · replace ha := ha.2 c_2
        refine ⟨fun c_3 => ?_, fun c_3 => ?_⟩
        · replace ha := ha.1 c_3
          exact j71 a0 x2 x3 va0 _ _ h ha
        · replace ha := ha.2 c_3
          refine EX1_turnsWell h va0 va1 ha (fun v_5 A_4 S h ha => ?_)
          refine ⟨fun c_6 => ?_, fun c_6 => ?_⟩
          · replace ha := ha.1 c_6
            exact ih28 a0 a1 x2 x3 (x5 + (-1 : Int32)) va0 va1 _ _ h ha
          · replace ha := ha.2 c_6
            refine EX1_putPage h va0 ha (fun A_7 S h ha => ?_)
            exact hq _ _ _ h ha
  unfold wX1_addPage
  unfold aX1_addPage at ha
  refine ⟨⟨_, cX1 h va0⟩, ?_⟩
  refine ⟨_, _, cX1 h va0, rfl, ?_⟩
  refine ⟨fun c_8 => ?_, fun c_8 => ?_⟩
  · replace ha := ha.1 c_8
    exact j28 q_fuel a0 a1 x2 x3 x3 va0 va1 _ _ h ha
  · replace ha := ha.2 c_8
    refine EX1_putPage h va0 ha (fun A_9 S h ha => ?_)
    exact hq _ _ _ h ha
set_option maxHeartbeats 2000000 in
theorem EX1_arrange {ad : Nat → Nat} {nv : Nat} {md : Nat → Bool} {A : q_St} {S : q_S} {a0 : Nat} {a1 : Nat} {x2 : Int32} {x3 : Int32} (h : Rep ad nv md A S) (va0 : q_LY a0) (va1 : q_PT md a1) {Q1 : q_St → Prop} {Q2 : q_S → Prop} (ha : aX1_arrange nv md a0 a1 x2 x3 Q1 A) (hq : ∀ (A : q_St) (S : q_S), Rep ad nv md A S → Q1 A → Q2 S) : wX1_arrange (ad a0) (ad a1) x2 x3 Q2 S := by
  have j46 : ∀ (k17 : Nat → Nat → Int32 → Int32 → Int32 → q_St → Prop) (m17 : Nat → Nat → Int32 → Int32 → Int32 → q_S → Prop) (ih17 : ∀ (a0 : Nat) (a1 : Nat) (x3 : Int32) (x4 : Int32) (x5 : Int32) (va0 : q_LY a0) (va1 : q_PT md a1) (A : q_St) (S : q_S), Rep ad nv md A S → k17 a0 a1 x3 x4 x5 A → m17 (ad a0) (ad a1) x3 x4 x5 S) (a0 : Nat) (a1 : Nat) (x3 : Int32) (x4 : Int32) (x5 : Int32) (va0 : q_LY a0) (va1 : q_PT md a1) (A : q_St) (S : q_S), Rep ad nv md A S → aX1_arrange_b46 nv md Q1 k17 a0 a1 x3 x4 x5 A → wX1_arrange_b46 Q2 m17 (ad a0) (ad a1) x3 x4 x5 S := by
    intro k17 m17 ih17 a0 a1 x3 x4 x5 va0 va1 A S h ha
    unfold wX1_arrange_b46
    unfold aX1_arrange_b46 at ha
    exact ih17 a0 a1 x3 x4 (x5 + (1 : Int32)) va0 va1 _ _ h ha
  have j17 : ∀ (n : Nat), ∀ (a0 : Nat) (a1 : Nat) (x3 : Int32) (x4 : Int32) (x5 : Int32) (va0 : q_LY a0) (va1 : q_PT md a1) (A : q_St) (S : q_S), Rep ad nv md A S → alX1_arrange_b17 nv md Q1 n a0 a1 x3 x4 x5 A → lX1_arrange_b17 Q2 n (ad a0) (ad a1) x3 x4 x5 S := by
    intro n
    induction n with
    | zero => intro a0 a1 x3 x4 x5 va0 va1 A S h ha; exact absurd ha (fun h => h)
    | succ n ih17 =>
      intro a0 a1 x3 x4 x5 va0 va1 A S h ha
      show wX1_arrange_b17 Q2 (lX1_arrange_b17 Q2 n) (ad a0) (ad a1) x3 x4 x5 S
      have ha : aX1_arrange_b17 nv md Q1 (alX1_arrange_b17 nv md Q1 n) a0 a1 x3 x4 x5 A := ha
      unfold wX1_arrange_b17
      unfold aX1_arrange_b17 at ha
      refine ⟨_, _, cX1 h va0, rfl, ?_⟩
      refine ⟨fun c_1 => ?_, fun c_1 => ?_⟩
      · replace ha := ha.1 c_1
        exact hq _ _ h ha
      · replace ha := ha.2 c_1
        refine ⟨fun c_2 => ?_, fun c_2 => ?_⟩
        · replace ha := ha.1 c_2
          exact j46 (alX1_arrange_b17 nv md Q1 n) _ ih17 a0 a1 x3 x4 x5 va0 va1 _ _ h ha
        · replace ha := ha.2 c_2
          refine EX1_addPage h va0 va1 ha (fun v_4 A_3 S h ha => ?_)
          exact j46 (alX1_arrange_b17 nv md Q1 n) _ ih17 a0 a1 x3 (x5 + v_4) x5 va0 va1 _ _ h ha
  unfold wX1_arrange
  unfold aX1_arrange at ha
  refine ⟨⟨_, cX1 h va0⟩, ?_⟩
  refine EX1_fillSystems h va0 va1 ha (fun A_5 S h ha => ?_)
  refine e_pX1_3 h va0 ha (fun A_6 S h ha => ?_)
  exact j17 q_fuel a0 a1 x3 (0 : Int32) (0 : Int32) va0 va1 _ _ h ha
set_option maxHeartbeats 2000000 in
theorem EX1_figure {ad : Nat → Nat} {nv : Nat} {md : Nat → Bool} {A : q_St} {S : q_S} {a0 : Nat} {x1 : Int32} {x2 : Int32} (h : Rep ad nv md A S) (va0 : q_LY a0) {Q1 : Int32 → q_St → Prop} {Q2 : Int32 → q_S → Prop} (ha : aX1_figure nv md a0 x1 x2 Q1 A) (hq : ∀ (r : Int32) (A : q_St) (S : q_S), Rep ad nv md A S → Q1 r A → Q2 r S) : wX1_figure (ad a0) x1 x2 Q2 S := by
  unfold wX1_figure
  unfold aX1_figure at ha
  refine ⟨⟨_, cX1 h va0⟩, ?_⟩
  refine ⟨fun c_1 => ?_, fun c_1 => ?_⟩
  · replace ha := ha.1 c_1
    exact hq _ _ _ h ha
  · replace ha := ha.2 c_1
    refine ⟨_, _, cX1 h va0, rfl, ?_⟩
    refine ⟨fun c_2 => ?_, fun c_2 => ?_⟩
    · replace ha := ha.1 c_2
      exact hq _ _ _ h ha
    · replace ha := ha.2 c_2
      refine ⟨fun c_3 => ?_, fun c_3 => ?_⟩
      · replace ha := ha.1 c_3
        exact hq _ _ _ h ha
      · replace ha := ha.2 c_3
        refine ⟨fun c_4 => ?_, fun c_4 => ?_⟩
        · replace ha := ha.1 c_4
          refine ⟨_, _, cX1 h va0, rfl, ?_⟩
          refine e_l h (isaX1_figures va0) ha (fun ha => ?_)
          exact hq _ _ _ h ha
        · replace ha := ha.2 c_4
          exact hq _ _ _ h ha
set_option maxHeartbeats 2000000 in
theorem EX7_isPageAlike {ad : Nat → Nat} {nv : Nat} {md : Nat → Bool} {A : q_St} {S : q_S} {a1 : Nat} {a2 : Nat} {x3 : Int32} (h : Rep ad nv md A S) (va1 : q_PT md a1) (va2 : q_PT md a2) {Q1 : Int32 → q_St → Prop} {Q2 : Int32 → q_S → Prop} (ha : aX7_isPageAlike nv md a1 a2 x3 Q1 A) (hq : ∀ (r : Int32) (A : q_St) (S : q_S), Rep ad nv md A S → Q1 r A → Q2 r S) : wX7_isPageAlike (ad 0) (ad a1) (ad a2) x3 Q2 S := by
  have j69 : ∀ (n : Nat), ∀ (a1 : Nat) (a2 : Nat) (x5 : Int32) (x6 : Int32) (va1 : q_PT md a1) (va2 : q_PT md a2) (A : q_St) (S : q_S), Rep ad nv md A S → alX7_isPageAlike_b69 nv md Q1 n a1 a2 x5 x6 A → lX7_isPageAlike_b69 Q2 n (ad a1) (ad a2) x5 x6 S := by
    intro n
    induction n with
    | zero => intro a1 a2 x5 x6 va1 va2 A S h ha; exact absurd ha (fun h => h)
    | succ n ih69 =>
      intro a1 a2 x5 x6 va1 va2 A S h ha
      show wX7_isPageAlike_b69 Q2 (lX7_isPageAlike_b69 Q2 n) (ad a1) (ad a2) x5 x6 S
      have ha : aX7_isPageAlike_b69 nv md Q1 (alX7_isPageAlike_b69 nv md Q1 n) a1 a2 x5 x6 A := ha
      unfold wX7_isPageAlike_b69
      unfold aX7_isPageAlike_b69 at ha
      refine ⟨fun c_1 => ?_, fun c_1 => ?_⟩
      · replace ha := ha.1 c_1
        exact ⟨ha.1, hq _ _ _ h ha.2⟩
      · replace ha := ha.2 c_1
        refine EX4_isRowAlike h va1 va2 ha (fun v_3 A_2 S h ha => ?_)
        refine ⟨fun c_4 => ?_, fun c_4 => ?_⟩
        · replace ha := ha.1 c_4
          exact ih69 a1 a2 x5 (x6 + (1 : Int32)) va1 va2 _ _ h ha
        · replace ha := ha.2 c_4
          exact ⟨ha.1, hq _ _ _ h ha.2⟩
  have j3 : ∀ (n : Nat), ∀ (a1 : Nat) (a2 : Nat) (x3 : Int32) (x4 : Int32) (va1 : q_PT md a1) (va2 : q_PT md a2) (A : q_St) (S : q_S), Rep ad nv md A S → alX7_isPageAlike_b3 nv md Q1 n a1 a2 x3 x4 A → lX7_isPageAlike_b3 Q2 n (ad 0) (ad a1) (ad a2) x3 x4 S := by
    intro n
    induction n with
    | zero => intro a1 a2 x3 x4 va1 va2 A S h ha; exact absurd ha (fun h => h)
    | succ n ih3 =>
      intro a1 a2 x3 x4 va1 va2 A S h ha
      show wX7_isPageAlike_b3 Q2 (lX7_isPageAlike_b3 Q2 n) (ad 0) (ad a1) (ad a2) x3 x4 S
      have ha : aX7_isPageAlike_b3 nv md Q1 (alX7_isPageAlike_b3 nv md Q1 n) a1 a2 x3 x4 A := ha
      unfold wX7_isPageAlike_b3
      unfold aX7_isPageAlike_b3 at ha
      refine ⟨fun c_5 => ?_, fun c_5 => ?_⟩
      · replace ha := ha.1 c_5
        refine ⟨_, _, cX7 h, rfl, ?_⟩
        refine EX1_figure h q_l5 ha (fun v_7 A_6 S h ha => ?_)
        refine ⟨_, _, cX7 h, rfl, ?_⟩
        refine EX1_figure h q_l5 ha (fun v_9 A_8 S h ha => ?_)
        exact j69 q_fuel a1 a2 (v_7 + v_9) v_7 va1 va2 _ _ h ha
      · replace ha := ha.2 c_5
        refine ⟨_, _, cX7 h, rfl, ?_⟩
        refine EX1_figure h q_l5 ha (fun v_11 A_10 S h ha => ?_)
        refine ⟨_, _, cX7 h, rfl, ?_⟩
        refine EX1_figure h q_l8 ha (fun v_13 A_12 S h ha => ?_)
        refine ⟨fun c_14 => ?_, fun c_14 => ?_⟩
        · replace ha := ha.1 c_14
          exact ih3 a1 a2 x3 (x4 + (1 : Int32)) va1 va2 _ _ h ha
        · replace ha := ha.2 c_14
          exact ⟨ha.1, hq _ _ _ h ha.2⟩
  unfold wX7_isPageAlike
  unfold aX7_isPageAlike at ha
  refine ⟨⟨_, cX7 h⟩, ?_⟩
  exact j3 q_fuel a1 a2 x3 (0 : Int32) va1 va2 _ _ h ha
set_option maxHeartbeats 2000000 in
theorem EX7_pagesAlike {ad : Nat → Nat} {nv : Nat} {md : Nat → Bool} {A : q_St} {S : q_S} {a1 : Nat} {a2 : Nat} (h : Rep ad nv md A S) (va1 : q_PT md a1) (va2 : q_PT md a2) {Q1 : Int32 → q_St → Prop} {Q2 : Int32 → q_S → Prop} (ha : aX7_pagesAlike nv md a1 a2 Q1 A) (hq : ∀ (r : Int32) (A : q_St) (S : q_S), Rep ad nv md A S → Q1 r A → Q2 r S) : wX7_pagesAlike (ad 0) (ad a1) (ad a2) Q2 S := by
  have j53 : ∀ (n : Nat), ∀ (a1 : Nat) (a2 : Nat) (x3 : Int32) (x4 : Int32) (va1 : q_PT md a1) (va2 : q_PT md a2) (A : q_St) (S : q_S), Rep ad nv md A S → alX7_pagesAlike_b53 nv md Q1 n a1 a2 x3 x4 A → lX7_pagesAlike_b53 Q2 n (ad 0) (ad a1) (ad a2) x3 x4 S := by
    intro n
    induction n with
    | zero => intro a1 a2 x3 x4 va1 va2 A S h ha; exact absurd ha (fun h => h)
    | succ n ih53 =>
      intro a1 a2 x3 x4 va1 va2 A S h ha
      show wX7_pagesAlike_b53 Q2 (lX7_pagesAlike_b53 Q2 n) (ad 0) (ad a1) (ad a2) x3 x4 S
      have ha : aX7_pagesAlike_b53 nv md Q1 (alX7_pagesAlike_b53 nv md Q1 n) a1 a2 x3 x4 A := ha
      unfold wX7_pagesAlike_b53
      unfold aX7_pagesAlike_b53 at ha
      refine ⟨fun c_1 => ?_, fun c_1 => ?_⟩
      · replace ha := ha.1 c_1
        exact hq _ _ _ h ha
      · replace ha := ha.2 c_1
        refine EX7_isPageAlike h va1 va2 ha (fun v_3 A_2 S h ha => ?_)
        refine ⟨fun c_4 => ?_, fun c_4 => ?_⟩
        · replace ha := ha.1 c_4
          exact hq _ _ _ h ha
        · replace ha := ha.2 c_4
          exact ih53 a1 a2 x3 (x4 + (1 : Int32)) va1 va2 _ _ h ha
  unfold wX7_pagesAlike
  unfold aX7_pagesAlike at ha
  refine ⟨⟨_, cX7 h⟩, ?_⟩
  refine ⟨_, _, cX7 h, rfl, ?_⟩
  refine ⟨_, _, cX7 h, rfl, ?_⟩
  refine ⟨_, _, cX7 h, rfl, ?_⟩
  refine EX1_arrange h q_l5 va1 ha (fun A_5 S h ha => ?_)
  refine ⟨_, _, cX7 h, rfl, ?_⟩
  refine ⟨_, _, cX7 h, rfl, ?_⟩
  refine ⟨_, _, cX7 h, rfl, ?_⟩
  refine EX1_arrange h q_l8 va2 ha (fun A_6 S h ha => ?_)
  refine ⟨_, _, cX7 h, rfl, ?_⟩
  refine ⟨_, _, cX1 h q_l5, rfl, ?_⟩
  refine ⟨_, _, cX7 h, rfl, ?_⟩
  refine ⟨_, _, cX1 h q_l8, rfl, ?_⟩
  exact j53 q_fuel a1 a2 (if (A_6 8 3) < (A_6 5 3) then (A_6 8 3) else (A_6 5 3)) (0 : Int32) va1 va2 _ _ h ha
set_option maxHeartbeats 2000000 in
theorem EX7_tacet {ad : Nat → Nat} {nv : Nat} {md : Nat → Bool} {A : q_St} {S : q_S} {x1 : Int32} (h : Rep ad nv md A S) {Q1 : Int32 → q_St → Prop} {Q2 : Int32 → q_S → Prop} (ha : aX7_tacet nv md x1 Q1 A) (hq : ∀ (r : Int32) (A : q_St) (S : q_S), Rep ad nv md A S → Q1 r A → Q2 r S) : wX7_tacet (ad 0) x1 Q2 S := by
  unfold wX7_tacet
  unfold aX7_tacet at ha
  refine ⟨⟨_, cX7 h⟩, ?_⟩
  refine ⟨_, _, cX7 h, rfl, ?_⟩
  refine EX5_voiceAt h ha (fun o_2 A_1 S wo_2 h ha => ?_)
  refine ⟨fun c_4 => ?_, fun _ c_4 => ?_⟩
  · replace ha := ha.1 (Option.map_eq_none_iff.mp c_4)
    exact hq _ _ _ h ha
  · obtain ⟨a_3, dc_4, rfl⟩ := Option.map_eq_some_iff.mp c_4
    replace ha := ha.2 a_3 dc_4
    have va_3 := wo_2 a_3 dc_4
    refine ⟨_, _, cX6 h va_3, rfl, ?_⟩
    refine EX3_total h (q_nv va_3) ha (fun v_6 A_5 S h ha => ?_)
    refine ⟨fun c_7 => ?_, fun c_7 => ?_⟩
    · replace ha := ha.1 c_7
      exact hq _ _ _ h ha
    · replace ha := ha.2 c_7
      exact hq _ _ _ h ha
set_option maxHeartbeats 2000000 in
theorem EX7_pageCountOf {ad : Nat → Nat} {nv : Nat} {md : Nat → Bool} {A : q_St} {S : q_S} {x1 : Int32} (h : Rep ad nv md A S) {Q1 : Int32 → q_St → Prop} {Q2 : Int32 → q_S → Prop} (ha : aX7_pageCountOf nv md x1 Q1 A) (hq : ∀ (r : Int32) (A : q_St) (S : q_S), Rep ad nv md A S → Q1 r A → Q2 r S) : wX7_pageCountOf (ad 0) x1 Q2 S := by
  unfold wX7_pageCountOf
  unfold aX7_pageCountOf at ha
  refine ⟨⟨_, cX7 h⟩, ?_⟩
  refine ⟨_, _, cX7 h, rfl, ?_⟩
  refine EX5_partOf h ha (fun o_2 A_1 S wo_2 h ha => ?_)
  refine ⟨fun c_4 => ?_, fun _ c_4 => ?_⟩
  · replace ha := ha.1 (Option.map_eq_none_iff.mp c_4)
    exact hq _ _ _ h ha
  · obtain ⟨a_3, dc_4, rfl⟩ := Option.map_eq_some_iff.mp c_4
    replace ha := ha.2 a_3 dc_4
    have va_3 := wo_2 a_3 dc_4
    refine ⟨_, _, cX7 h, rfl, ?_⟩
    refine ⟨_, _, cX7 h, rfl, ?_⟩
    refine ⟨_, _, cX7 h, rfl, ?_⟩
    refine EX1_arrange h q_l5 va_3 ha (fun A_5 S h ha => ?_)
    refine ⟨_, _, cX7 h, rfl, ?_⟩
    refine ⟨_, _, cX1 h q_l5, rfl, ?_⟩
    exact hq _ _ _ h ha
set_option maxHeartbeats 2000000 in
theorem EX7_lay {ad : Nat → Nat} {nv : Nat} {md : Nat → Bool} {A : q_St} {S : q_S} {x1 : Int32} {x2 : Int32} (h : Rep ad nv md A S) {Q1 : Int32 → q_St → Prop} {Q2 : Int32 → q_S → Prop} (ha : aX7_lay nv md x1 x2 Q1 A) (hq : ∀ (r : Int32) (A : q_St) (S : q_S), Rep ad nv md A S → Q1 r A → Q2 r S) : wX7_lay (ad 0) x1 x2 Q2 S := by
  have j39 : ∀ (n : Nat), ∀ (x3 : Int32) (x4 : Int32) (A : q_St) (S : q_S), Rep ad nv md A S → alX7_lay_b39 nv md Q1 n x3 x4 A → lX7_lay_b39 Q2 n (ad 0) x3 x4 S := by
    intro n
    induction n with
    | zero => intro x3 x4 A S h ha; exact absurd ha (fun h => h)
    | succ n ih39 =>
      intro x3 x4 A S h ha
      show wX7_lay_b39 Q2 (lX7_lay_b39 Q2 n) (ad 0) x3 x4 S
      have ha : aX7_lay_b39 nv md Q1 (alX7_lay_b39 nv md Q1 n) x3 x4 A := ha
      unfold wX7_lay_b39
      unfold aX7_lay_b39 at ha
      refine ⟨fun c_1 => ?_, fun c_1 => ?_⟩
      · replace ha := ha.1 c_1
        exact hq _ _ _ h ha
      · replace ha := ha.2 c_1
        refine EX7_pageCountOf h ha (fun v_3 A_2 S h ha => ?_)
        exact ih39 (x3 + v_3) (x4 + (1 : Int32)) _ _ h ha
  unfold wX7_lay
  unfold aX7_lay at ha
  refine ⟨⟨_, cX7 h⟩, ?_⟩
  refine EX7_isWithin h ha (fun v_5 A_4 S h ha => ?_)
  refine ⟨fun c_6 => ?_, fun c_6 => ?_⟩
  · replace ha := ha.1 c_6
    exact hq _ _ _ h ha
  · replace ha := ha.2 c_6
    refine EX7_isWithin h ha (fun v_8 A_7 S h ha => ?_)
    refine ⟨fun c_9 => ?_, fun c_9 => ?_⟩
    · replace ha := ha.1 c_9
      refine e_pX7_4 h ha (fun A_10 S h ha => ?_)
      refine e_pX7_5 h ha (fun A_11 S h ha => ?_)
      exact j39 q_fuel (0 : Int32) (0 : Int32) _ _ h ha
    · replace ha := ha.2 c_9
      exact hq _ _ _ h ha
set_option maxHeartbeats 2000000 in
theorem EX7_pages {ad : Nat → Nat} {nv : Nat} {md : Nat → Bool} {A : q_St} {S : q_S} {x1 : Int32} (h : Rep ad nv md A S) {Q1 : Int32 → q_St → Prop} {Q2 : Int32 → q_S → Prop} (ha : aX7_pages nv md x1 Q1 A) (hq : ∀ (r : Int32) (A : q_St) (S : q_S), Rep ad nv md A S → Q1 r A → Q2 r S) : wX7_pages (ad 0) x1 Q2 S := by
  unfold wX7_pages
  unfold aX7_pages at ha
  refine ⟨⟨_, cX7 h⟩, ?_⟩
  refine ⟨_, _, cX7 h, rfl, ?_⟩
  refine EX5_partOf h ha (fun o_2 A_1 S wo_2 h ha => ?_)
  refine ⟨fun c_4 => ?_, fun _ c_4 => ?_⟩
  · replace ha := ha.1 (Option.map_eq_none_iff.mp c_4)
    exact hq _ _ _ h ha
  · obtain ⟨a_3, dc_4, rfl⟩ := Option.map_eq_some_iff.mp c_4
    replace ha := ha.2 a_3 dc_4
    have va_3 := wo_2 a_3 dc_4
    refine EX7_pageCountOf h ha (fun v_6 A_5 S h ha => ?_)
    exact hq _ _ _ h ha
set_option maxHeartbeats 2000000 in
theorem EX7_nextOdd {ad : Nat → Nat} {nv : Nat} {md : Nat → Bool} {A : q_St} {S : q_S} {x0 : Int32} (h : Rep ad nv md A S) {Q1 : Int32 → q_St → Prop} {Q2 : Int32 → q_S → Prop} (ha : aX7_nextOdd nv md x0 Q1 A) (hq : ∀ (r : Int32) (A : q_St) (S : q_S), Rep ad nv md A S → Q1 r A → Q2 r S) : wX7_nextOdd x0 Q2 S := by
  unfold wX7_nextOdd
  unfold aX7_nextOdd at ha
  exact hq _ _ _ h ha
set_option maxHeartbeats 2000000 in
theorem EX7_lastNumberAhead {ad : Nat → Nat} {nv : Nat} {md : Nat → Bool} {A : q_St} {S : q_S} {x1 : Int32} (h : Rep ad nv md A S) {Q1 : Int32 → q_St → Prop} {Q2 : Int32 → q_S → Prop} (ha : aX7_lastNumberAhead nv md x1 Q1 A) (hq : ∀ (r : Int32) (A : q_St) (S : q_S), Rep ad nv md A S → Q1 r A → Q2 r S) : wX7_lastNumberAhead (ad 0) x1 Q2 S := by
  have j37 : ∀ (k4 : Int32 → Int32 → Int32 → q_St → Prop) (m4 : Nat → Int32 → Int32 → Int32 → q_S → Prop) (ih4 : ∀ (x1 : Int32) (x2 : Int32) (x3 : Int32) (A : q_St) (S : q_S), Rep ad nv md A S → k4 x1 x2 x3 A → m4 (ad 0) x1 x2 x3 S) (x1 : Int32) (x2 : Int32) (x3 : Int32) (A : q_St) (S : q_S), Rep ad nv md A S → aX7_lastNumberAhead_b37 nv md Q1 k4 x1 x2 x3 A → wX7_lastNumberAhead_b37 Q2 m4 (ad 0) x1 x2 x3 S := by
    intro k4 m4 ih4 x1 x2 x3 A S h ha
    unfold wX7_lastNumberAhead_b37
    unfold aX7_lastNumberAhead_b37 at ha
    exact ih4 x1 x2 (x3 + (1 : Int32)) _ _ h ha
  have j4 : ∀ (n : Nat), ∀ (x1 : Int32) (x2 : Int32) (x3 : Int32) (A : q_St) (S : q_S), Rep ad nv md A S → alX7_lastNumberAhead_b4 nv md Q1 n x1 x2 x3 A → lX7_lastNumberAhead_b4 Q2 n (ad 0) x1 x2 x3 S := by
    intro n
    induction n with
    | zero => intro x1 x2 x3 A S h ha; exact absurd ha (fun h => h)
    | succ n ih4 =>
      intro x1 x2 x3 A S h ha
      show wX7_lastNumberAhead_b4 Q2 (lX7_lastNumberAhead_b4 Q2 n) (ad 0) x1 x2 x3 S
      have ha : aX7_lastNumberAhead_b4 nv md Q1 (alX7_lastNumberAhead_b4 nv md Q1 n) x1 x2 x3 A := ha
      unfold wX7_lastNumberAhead_b4
      unfold aX7_lastNumberAhead_b4 at ha
      refine ⟨fun c_1 => ?_, fun c_1 => ?_⟩
      · replace ha := ha.1 c_1
        exact hq _ _ _ h ha
      · replace ha := ha.2 c_1
        refine ⟨fun c_2 => ?_, fun c_2 => ?_⟩
        · replace ha := ha.1 c_2
          exact hq _ _ _ h ha
        · replace ha := ha.2 c_2
          refine EX7_pageCountOf h ha (fun v_4 A_3 S h ha => ?_)
          refine ⟨fun c_5 => ?_, fun c_5 => ?_⟩
          · replace ha := ha.1 c_5
            exact j37 (alX7_lastNumberAhead_b4 nv md Q1 n) _ ih4 x1 x2 x3 _ _ h ha
          · replace ha := ha.2 c_5
            refine EX7_nextOdd h ha (fun v_7 A_6 S h ha => ?_)
            exact j37 (alX7_lastNumberAhead_b4 nv md Q1 n) _ ih4 x1 ((v_7 + v_4) - (1 : Int32)) x3 _ _ h ha
  unfold wX7_lastNumberAhead
  unfold aX7_lastNumberAhead at ha
  refine ⟨⟨_, cX7 h⟩, ?_⟩
  exact j4 q_fuel x1 (0 : Int32) (0 : Int32) _ _ h ha
set_option maxHeartbeats 2000000 in
theorem EX7_page {ad : Nat → Nat} {nv : Nat} {md : Nat → Bool} {A : q_St} {S : q_S} {x1 : Int32} {x2 : Int32} {x3 : Int32} (h : Rep ad nv md A S) {Q1 : Int32 → q_St → Prop} {Q2 : Int32 → q_S → Prop} (ha : aX7_page nv md x1 x2 x3 Q1 A) (hq : ∀ (r : Int32) (A : q_St) (S : q_S), Rep ad nv md A S → Q1 r A → Q2 r S) : wX7_page (ad 0) x1 x2 x3 Q2 S := by
  unfold wX7_page
  unfold aX7_page at ha
  refine ⟨⟨_, cX7 h⟩, ?_⟩
  refine ⟨_, _, cX7 h, rfl, ?_⟩
  refine EX5_partOf h ha (fun o_2 A_1 S wo_2 h ha => ?_)
  refine ⟨fun c_4 => ?_, fun _ c_4 => ?_⟩
  · replace ha := ha.1 (Option.map_eq_none_iff.mp c_4)
    exact hq _ _ _ h ha
  · obtain ⟨a_3, dc_4, rfl⟩ := Option.map_eq_some_iff.mp c_4
    replace ha := ha.2 a_3 dc_4
    have va_3 := wo_2 a_3 dc_4
    refine EX7_pageCountOf h ha (fun v_6 A_5 S h ha => ?_)
    refine EX7_isWithin h ha (fun v_8 A_7 S h ha => ?_)
    refine ⟨fun c_9 => ?_, fun c_9 => ?_⟩
    · replace ha := ha.1 c_9
      refine EX7_isWithin h ha (fun v_11 A_10 S h ha => ?_)
      refine ⟨fun c_12 => ?_, fun c_12 => ?_⟩
      · replace ha := ha.1 c_12
        refine ⟨fun c_13 => ?_, fun c_13 => ?_⟩
        · replace ha := ha.1 c_13
          refine ⟨_, _, cX7 h, rfl, ?_⟩
          refine EX1_figure h q_l5 ha (fun v_15 A_14 S h ha => ?_)
          exact hq _ _ _ h ha
        · replace ha := ha.2 c_13
          refine EX7_lastNumberAhead h ha (fun v_17 A_16 S h ha => ?_)
          refine EX7_nextOdd h ha (fun v_19 A_18 S h ha => ?_)
          exact hq _ _ _ h ha
      · replace ha := ha.2 c_12
        exact hq _ _ _ h ha
    · replace ha := ha.2 c_9
      exact hq _ _ _ h ha
set_option maxHeartbeats 2000000 in
theorem EX3_hasRhythm {ad : Nat → Nat} {nv : Nat} {md : Nat → Bool} {A : q_St} {S : q_S} {a0 : Nat} {x1 : Int32} {x2 : Int32} {x3 : Int32} (h : Rep ad nv md A S) (va0 : q_NT nv md a0) {Q1 : Int32 → q_St → Prop} {Q2 : Int32 → q_S → Prop} (ha : aX3_hasRhythm nv md a0 x1 x2 x3 Q1 A) (hq : ∀ (r : Int32) (A : q_St) (S : q_S), Rep ad nv md A S → Q1 r A → Q2 r S) : wX3_hasRhythm (ad a0) x1 x2 x3 Q2 S := by
  have j39 : ∀ (k3 : Nat → Int32 → Int32 → Int32 → Int32 → q_St → Prop) (m3 : Nat → Int32 → Int32 → Int32 → Int32 → q_S → Prop) (ih3 : ∀ (a0 : Nat) (x1 : Int32) (x2 : Int32) (x3 : Int32) (x4 : Int32) (va0 : q_NT nv md a0) (A : q_St) (S : q_S), Rep ad nv md A S → k3 a0 x1 x2 x3 x4 A → m3 (ad a0) x1 x2 x3 x4 S) (a0 : Nat) (x1 : Int32) (x2 : Int32) (x3 : Int32) (x4 : Int32) (va0 : q_NT nv md a0) (A : q_St) (S : q_S), Rep ad nv md A S → aX3_hasRhythm_b39 nv md Q1 k3 a0 x1 x2 x3 x4 A → wX3_hasRhythm_b39 Q2 m3 (ad a0) x1 x2 x3 x4 S := by
    intro k3 m3 ih3 a0 x1 x2 x3 x4 va0 A S h ha
    unfold wX3_hasRhythm_b39
    unfold aX3_hasRhythm_b39 at ha
    exact ih3 a0 x1 x2 x3 (x4 + (1 : Int32)) va0 _ _ h ha
  have j3 : ∀ (n : Nat), ∀ (a0 : Nat) (x1 : Int32) (x2 : Int32) (x3 : Int32) (x4 : Int32) (va0 : q_NT nv md a0) (A : q_St) (S : q_S), Rep ad nv md A S → alX3_hasRhythm_b3 nv md Q1 n a0 x1 x2 x3 x4 A → lX3_hasRhythm_b3 Q2 n (ad a0) x1 x2 x3 x4 S := by
    intro n
    induction n with
    | zero => intro a0 x1 x2 x3 x4 va0 A S h ha; exact absurd ha (fun h => h)
    | succ n ih3 =>
      intro a0 x1 x2 x3 x4 va0 A S h ha
      show wX3_hasRhythm_b3 Q2 (lX3_hasRhythm_b3 Q2 n) (ad a0) x1 x2 x3 x4 S
      have ha : aX3_hasRhythm_b3 nv md Q1 (alX3_hasRhythm_b3 nv md Q1 n) a0 x1 x2 x3 x4 A := ha
      unfold wX3_hasRhythm_b3
      unfold aX3_hasRhythm_b3 at ha
      refine EX3_size h va0 ha (fun v_2 A_1 S h ha => ?_)
      refine ⟨fun c_3 => ?_, fun c_3 => ?_⟩
      · replace ha := ha.1 c_3
        exact ⟨ha.1, hq _ _ _ h ha.2⟩
      · replace ha := ha.2 c_3
        refine EX3_figure h va0 ha (fun v_5 A_4 S h ha => ?_)
        refine ⟨fun c_6 => ?_, fun c_6 => ?_⟩
        · replace ha := ha.1 c_6
          exact j39 (alX3_hasRhythm_b3 nv md Q1 n) _ ih3 a0 x1 x2 x3 x4 va0 _ _ h ha
        · replace ha := ha.2 c_6
          refine EX3_figure h va0 ha (fun v_8 A_7 S h ha => ?_)
          refine ⟨fun c_9 => ?_, fun c_9 => ?_⟩
          · replace ha := ha.1 c_9
            exact j39 (alX3_hasRhythm_b3 nv md Q1 n) _ ih3 a0 x1 x2 x3 x4 va0 _ _ h ha
          · replace ha := ha.2 c_9
            exact ⟨ha.1, hq _ _ _ h ha.2⟩
  unfold wX3_hasRhythm
  unfold aX3_hasRhythm at ha
  refine ⟨⟨_, cX3 h va0⟩, ?_⟩
  exact j3 q_fuel a0 x1 x2 x3 (0 : Int32) va0 _ _ h ha
set_option maxHeartbeats 2000000 in
theorem EX3_hasRhythmIn {ad : Nat → Nat} {nv : Nat} {md : Nat → Bool} {A : q_St} {S : q_S} {a0 : Nat} {a1 : Nat} {x2 : Int32} (h : Rep ad nv md A S) (va0 : q_NT nv md a0) (va1 : q_NT nv md a1) {Q1 : Int32 → q_St → Prop} {Q2 : Int32 → q_S → Prop} (ha : aX3_hasRhythmIn nv md a0 a1 x2 Q1 A) (hq : ∀ (r : Int32) (A : q_St) (S : q_S), Rep ad nv md A S → Q1 r A → Q2 r S) : wX3_hasRhythmIn (ad a0) (ad a1) x2 Q2 S := by
  have j2 : ∀ (n : Nat), ∀ (a0 : Nat) (a1 : Nat) (x2 : Int32) (x3 : Int32) (va0 : q_NT nv md a0) (va1 : q_NT nv md a1) (A : q_St) (S : q_S), Rep ad nv md A S → alX3_hasRhythmIn_b2 nv md Q1 n a0 a1 x2 x3 A → lX3_hasRhythmIn_b2 Q2 n (ad a0) (ad a1) x2 x3 S := by
    intro n
    induction n with
    | zero => intro a0 a1 x2 x3 va0 va1 A S h ha; exact absurd ha (fun h => h)
    | succ n ih2 =>
      intro a0 a1 x2 x3 va0 va1 A S h ha
      show wX3_hasRhythmIn_b2 Q2 (lX3_hasRhythmIn_b2 Q2 n) (ad a0) (ad a1) x2 x3 S
      have ha : aX3_hasRhythmIn_b2 nv md Q1 (alX3_hasRhythmIn_b2 nv md Q1 n) a0 a1 x2 x3 A := ha
      unfold wX3_hasRhythmIn_b2
      unfold aX3_hasRhythmIn_b2 at ha
      refine EX3_size h va0 ha (fun v_2 A_1 S h ha => ?_)
      refine ⟨fun c_3 => ?_, fun c_3 => ?_⟩
      · replace ha := ha.1 c_3
        exact ⟨ha.1, hq _ _ _ h ha.2⟩
      · replace ha := ha.2 c_3
        refine EX3_figure h va0 ha (fun v_5 A_4 S h ha => ?_)
        refine EX3_figure h va0 ha (fun v_7 A_6 S h ha => ?_)
        refine EX3_hasRhythm h va1 ha (fun v_9 A_8 S h ha => ?_)
        refine ⟨fun c_10 => ?_, fun c_10 => ?_⟩
        · replace ha := ha.1 c_10
          exact ih2 a0 a1 x2 (x3 + (1 : Int32)) va0 va1 _ _ h ha
        · replace ha := ha.2 c_10
          exact ⟨ha.1, hq _ _ _ h ha.2⟩
  unfold wX3_hasRhythmIn
  unfold aX3_hasRhythmIn at ha
  refine ⟨⟨_, cX3 h va0⟩, ?_⟩
  exact j2 q_fuel a0 a1 x2 (0 : Int32) va0 va1 _ _ h ha
set_option maxHeartbeats 2000000 in
theorem EX7_condense {ad : Nat → Nat} {nv : Nat} {md : Nat → Bool} {A : q_St} {S : q_S} {a0 : Nat} {a1 : Nat} {x2 : Int32} (h : Rep ad nv md A S) (va0 : q_NT nv md a0) (va1 : q_NT nv md a1) {Q1 : Int32 → q_St → Prop} {Q2 : Int32 → q_S → Prop} (ha : aX7_condense nv md a0 a1 x2 Q1 A) (hq : ∀ (r : Int32) (A : q_St) (S : q_S), Rep ad nv md A S → Q1 r A → Q2 r S) : wX7_condense (ad a0) (ad a1) x2 Q2 S := by
  have j40 : ∀ (a0 : Nat) (a1 : Nat) (x2 : Int32) (x3 : Int32) (x4 : Int32) (va0 : q_NT nv md a0) (va1 : q_NT nv md a1) (A : q_St) (S : q_S), Rep ad nv md A S → aX7_condense_b40 nv md Q1 a0 a1 x2 x3 x4 A → wX7_condense_b40 Q2 (ad a0) (ad a1) x2 x3 x4 S := by
    intro a0 a1 x2 x3 x4 va0 va1 A S h ha
    unfold wX7_condense_b40
    unfold aX7_condense_b40 at ha
    refine ⟨fun c_1 => ?_, fun c_1 => ?_⟩
    · replace ha := ha.1 c_1
      refine ⟨fun c_2 => ?_, fun c_2 => ?_⟩
      · replace ha := ha.1 c_2
        refine EX3_isAlike h va0 va1 ha (fun v_4 A_3 S h ha => ?_)
        refine ⟨fun c_5 => ?_, fun c_5 => ?_⟩
        · replace ha := ha.1 c_5
          refine EX3_hasRhythmIn h va0 va1 ha (fun v_7 A_6 S h ha => ?_)
          refine ⟨fun c_8 => ?_, fun c_8 => ?_⟩
          · replace ha := ha.1 c_8
            exact hq _ _ _ h ha
          · replace ha := ha.2 c_8
            refine EX3_hasRhythmIn h va1 va0 ha (fun v_10 A_9 S h ha => ?_)
            refine ⟨fun c_11 => ?_, fun c_11 => ?_⟩
            · replace ha := ha.1 c_11
              exact hq _ _ _ h ha
            · replace ha := ha.2 c_11
              exact hq _ _ _ h ha
        · replace ha := ha.2 c_5
          exact hq _ _ _ h ha
      · replace ha := ha.2 c_2
        exact hq _ _ _ h ha
    · replace ha := ha.2 c_1
      exact hq _ _ _ h ha
  have j27 : ∀ (a0 : Nat) (a1 : Nat) (x2 : Int32) (x3 : Int32) (y0 : Int32) (va0 : q_NT nv md a0) (va1 : q_NT nv md a1) (A : q_St) (S : q_S), Rep ad nv md A S → aX7_condense_b27 nv md Q1 a0 a1 x2 x3 y0 A → wX7_condense_b27 Q2 (ad a0) (ad a1) x2 x3 y0 S := by
    intro a0 a1 x2 x3 y0 va0 va1 A S h ha
    unfold wX7_condense_b27
    unfold aX7_condense_b27 at ha
    refine ⟨fun c_12 => ?_, fun c_12 => ?_⟩
    · replace ha := ha.1 c_12
      exact j40 a0 a1 x2 x3 y0 va0 va1 _ _ h ha
    · replace ha := ha.2 c_12
      refine ⟨fun c_13 => ?_, fun c_13 => ?_⟩
      · replace ha := ha.1 c_13
        exact j40 a0 a1 x2 x3 y0 va0 va1 _ _ h ha
      · replace ha := ha.2 c_13
        exact hq _ _ _ h ha
  have j13 : ∀ (a0 : Nat) (a1 : Nat) (x2 : Int32) (y0 : Int32) (va0 : q_NT nv md a0) (va1 : q_NT nv md a1) (A : q_St) (S : q_S), Rep ad nv md A S → aX7_condense_b13 nv md Q1 a0 a1 x2 y0 A → wX7_condense_b13 Q2 (ad a0) (ad a1) x2 y0 S := by
    intro a0 a1 x2 y0 va0 va1 A S h ha
    unfold wX7_condense_b13
    unfold aX7_condense_b13 at ha
    refine EX3_size h va1 ha (fun v_15 A_14 S h ha => ?_)
    refine ⟨fun c_16 => ?_, fun c_16 => ?_⟩
    · replace ha := ha.1 c_16
      exact j27 a0 a1 x2 y0 (0 : Int32) va0 va1 _ _ h ha
    · replace ha := ha.2 c_16
      exact j27 a0 a1 x2 y0 (1 : Int32) va0 va1 _ _ h ha
  unfold wX7_condense
  unfold aX7_condense at ha
  refine EX3_size h va0 ha (fun v_18 A_17 S h ha => ?_)
  refine ⟨fun c_19 => ?_, fun c_19 => ?_⟩
  · replace ha := ha.1 c_19
    exact j13 a0 a1 x2 (0 : Int32) va0 va1 _ _ h ha
  · replace ha := ha.2 c_19
    exact j13 a0 a1 x2 (1 : Int32) va0 va1 _ _ h ha
set_option maxHeartbeats 2000000 in
theorem EX7_condensed {ad : Nat → Nat} {nv : Nat} {md : Nat → Bool} {A : q_St} {S : q_S} {x1 : Int32} {x2 : Int32} {x3 : Int32} (h : Rep ad nv md A S) {Q1 : Int32 → q_St → Prop} {Q2 : Int32 → q_S → Prop} (ha : aX7_condensed nv md x1 x2 x3 Q1 A) (hq : ∀ (r : Int32) (A : q_St) (S : q_S), Rep ad nv md A S → Q1 r A → Q2 r S) : wX7_condensed (ad 0) x1 x2 x3 Q2 S := by
  unfold wX7_condensed
  unfold aX7_condensed at ha
  refine ⟨⟨_, cX7 h⟩, ?_⟩
  refine ⟨_, _, cX7 h, rfl, ?_⟩
  refine EX5_voiceAt h ha (fun o_2 A_1 S wo_2 h ha => ?_)
  refine ⟨_, _, cX7 h, rfl, ?_⟩
  refine EX5_voiceAt h ha (fun o_4 A_3 S wo_4 h ha => ?_)
  refine ⟨fun c_6 => ?_, fun _ c_6 => ?_⟩
  · replace ha := ha.1 (Option.map_eq_none_iff.mp c_6)
    exact hq _ _ _ h ha
  · obtain ⟨a_5, dc_6, rfl⟩ := Option.map_eq_some_iff.mp c_6
    replace ha := ha.2 a_5 dc_6
    have va_5 := wo_2 a_5 dc_6
    refine ⟨fun c_8 => ?_, fun _ c_8 => ?_⟩
    · replace ha := ha.1 (Option.map_eq_none_iff.mp c_8)
      exact hq _ _ _ h ha
    · obtain ⟨a_7, dc_8, rfl⟩ := Option.map_eq_some_iff.mp c_8
      replace ha := ha.2 a_7 dc_8
      have va_7 := wo_4 a_7 dc_8
      refine ⟨_, _, cX7 h, rfl, ?_⟩
      refine EX5_hasBar h ha (fun v_10 A_9 S h ha => ?_)
      refine ⟨fun c_11 => ?_, fun c_11 => ?_⟩
      · replace ha := ha.1 c_11
        refine ⟨fun c_12 => ?_, fun c_12 => ?_⟩
        · replace ha := ha.1 c_12
          refine ⟨_, _, cX6 h va_5, rfl, ?_⟩
          refine ⟨_, _, cX6 h va_7, rfl, ?_⟩
          refine EX7_condense h (q_nv va_5) (q_nv va_7) ha (fun v_14 A_13 S h ha => ?_)
          exact hq _ _ _ h ha
        · replace ha := ha.2 c_12
          exact hq _ _ _ h ha
      · replace ha := ha.2 c_11
        exact hq _ _ _ h ha
set_option maxHeartbeats 2000000 in
theorem EX7_together {ad : Nat → Nat} {nv : Nat} {md : Nat → Bool} {A : q_St} {S : q_S} {x1 : Int32} {x2 : Int32} (h : Rep ad nv md A S) {Q1 : Int32 → q_St → Prop} {Q2 : Int32 → q_S → Prop} (ha : aX7_together nv md x1 x2 Q1 A) (hq : ∀ (r : Int32) (A : q_St) (S : q_S), Rep ad nv md A S → Q1 r A → Q2 r S) : wX7_together (ad 0) x1 x2 Q2 S := by
  have j78 : ∀ (k45 : Nat → Nat → Int32 → Int32 → q_St → Prop) (m45 : Nat → Nat → Nat → Int32 → Int32 → q_S → Prop) (ih45 : ∀ (a3 : Nat) (a4 : Nat) (x5 : Int32) (x6 : Int32) (va3 : q_VO nv a3) (va4 : q_VO nv a4) (A : q_St) (S : q_S), Rep ad nv md A S → k45 a3 a4 x5 x6 A → m45 (ad 0) (ad a3) (ad a4) x5 x6 S) (a3 : Nat) (a4 : Nat) (x5 : Int32) (x6 : Int32) (va3 : q_VO nv a3) (va4 : q_VO nv a4) (A : q_St) (S : q_S), Rep ad nv md A S → aX7_together_b78 nv md Q1 k45 a3 a4 x5 x6 A → wX7_together_b78 Q2 m45 (ad 0) (ad a3) (ad a4) x5 x6 S := by
    intro k45 m45 ih45 a3 a4 x5 x6 va3 va4 A S h ha
    unfold wX7_together_b78
    unfold aX7_together_b78 at ha
    exact ih45 a3 a4 x5 (x6 + (1 : Int32)) va3 va4 _ _ h ha
  have j45 : ∀ (n : Nat), ∀ (a3 : Nat) (a4 : Nat) (x5 : Int32) (x6 : Int32) (va3 : q_VO nv a3) (va4 : q_VO nv a4) (A : q_St) (S : q_S), Rep ad nv md A S → alX7_together_b45 nv md Q1 n a3 a4 x5 x6 A → lX7_together_b45 Q2 n (ad 0) (ad a3) (ad a4) x5 x6 S := by
    intro n
    induction n with
    | zero => intro a3 a4 x5 x6 va3 va4 A S h ha; exact absurd ha (fun h => h)
    | succ n ih45 =>
      intro a3 a4 x5 x6 va3 va4 A S h ha
      show wX7_together_b45 Q2 (lX7_together_b45 Q2 n) (ad 0) (ad a3) (ad a4) x5 x6 S
      have ha : aX7_together_b45 nv md Q1 (alX7_together_b45 nv md Q1 n) a3 a4 x5 x6 A := ha
      unfold wX7_together_b45
      unfold aX7_together_b45 at ha
      refine ⟨_, _, cX7 h, rfl, ?_⟩
      refine ⟨_, _, cX5 h, rfl, ?_⟩
      refine ⟨fun c_1 => ?_, fun c_1 => ?_⟩
      · replace ha := ha.1 c_1
        exact hq _ _ _ h ha
      · replace ha := ha.2 c_1
        refine ⟨_, _, cX6 h va3, rfl, ?_⟩
        refine ⟨_, _, cX6 h va4, rfl, ?_⟩
        refine EX7_condense h (q_nv va3) (q_nv va4) ha (fun v_3 A_2 S h ha => ?_)
        refine ⟨fun c_4 => ?_, fun c_4 => ?_⟩
        · replace ha := ha.1 c_4
          exact j78 (alX7_together_b45 nv md Q1 n) _ ih45 a3 a4 x5 x6 va3 va4 _ _ h ha
        · replace ha := ha.2 c_4
          exact j78 (alX7_together_b45 nv md Q1 n) _ ih45 a3 a4 (x5 + (1 : Int32)) x6 va3 va4 _ _ h ha
  unfold wX7_together
  unfold aX7_together at ha
  refine ⟨⟨_, cX7 h⟩, ?_⟩
  refine ⟨_, _, cX7 h, rfl, ?_⟩
  refine EX5_voiceAt h ha (fun o_6 A_5 S wo_6 h ha => ?_)
  refine ⟨_, _, cX7 h, rfl, ?_⟩
  refine EX5_voiceAt h ha (fun o_8 A_7 S wo_8 h ha => ?_)
  refine ⟨fun c_10 => ?_, fun _ c_10 => ?_⟩
  · replace ha := ha.1 (Option.map_eq_none_iff.mp c_10)
    exact hq _ _ _ h ha
  · obtain ⟨a_9, dc_10, rfl⟩ := Option.map_eq_some_iff.mp c_10
    replace ha := ha.2 a_9 dc_10
    have va_9 := wo_6 a_9 dc_10
    refine ⟨fun c_12 => ?_, fun _ c_12 => ?_⟩
    · replace ha := ha.1 (Option.map_eq_none_iff.mp c_12)
      exact hq _ _ _ h ha
    · obtain ⟨a_11, dc_12, rfl⟩ := Option.map_eq_some_iff.mp c_12
      replace ha := ha.2 a_11 dc_12
      have va_11 := wo_8 a_11 dc_12
      refine ⟨fun c_13 => ?_, fun c_13 => ?_⟩
      · replace ha := ha.1 c_13
        exact j45 q_fuel a_9 a_11 (0 : Int32) (0 : Int32) va_9 va_11 _ _ h ha
      · replace ha := ha.2 c_13
        exact hq _ _ _ h ha
set_option maxHeartbeats 2000000 in
theorem EX5_noteTotal {ad : Nat → Nat} {nv : Nat} {md : Nat → Bool} {A : q_St} {S : q_S} (h : Rep ad nv md A S) {Q1 : Int32 → q_St → Prop} {Q2 : Int32 → q_S → Prop} (ha : aX5_noteTotal nv md Q1 A) (hq : ∀ (r : Int32) (A : q_St) (S : q_S), Rep ad nv md A S → Q1 r A → Q2 r S) : wX5_noteTotal (ad 1) Q2 S := by
  have j30 : ∀ (k4 : Int32 → Int32 → q_St → Prop) (m4 : Nat → Int32 → Int32 → q_S → Prop) (ih4 : ∀ (x1 : Int32) (x2 : Int32) (A : q_St) (S : q_S), Rep ad nv md A S → k4 x1 x2 A → m4 (ad 1) x1 x2 S) (x1 : Int32) (x2 : Int32) (A : q_St) (S : q_S), Rep ad nv md A S → aX5_noteTotal_b30 nv md Q1 k4 x1 x2 A → wX5_noteTotal_b30 Q2 m4 (ad 1) x1 x2 S := by
    intro k4 m4 ih4 x1 x2 A S h ha
    unfold wX5_noteTotal_b30
    unfold aX5_noteTotal_b30 at ha
    exact ih4 x1 (x2 + (1 : Int32)) _ _ h ha
  have j4 : ∀ (n : Nat), ∀ (x1 : Int32) (x2 : Int32) (A : q_St) (S : q_S), Rep ad nv md A S → alX5_noteTotal_b4 nv md Q1 n x1 x2 A → lX5_noteTotal_b4 Q2 n (ad 1) x1 x2 S := by
    intro n
    induction n with
    | zero => intro x1 x2 A S h ha; exact absurd ha (fun h => h)
    | succ n ih4 =>
      intro x1 x2 A S h ha
      show wX5_noteTotal_b4 Q2 (lX5_noteTotal_b4 Q2 n) (ad 1) x1 x2 S
      have ha : aX5_noteTotal_b4 nv md Q1 (alX5_noteTotal_b4 nv md Q1 n) x1 x2 A := ha
      unfold wX5_noteTotal_b4
      unfold aX5_noteTotal_b4 at ha
      refine ⟨fun c_1 => ?_, fun c_1 => ?_⟩
      · replace ha := ha.1 c_1
        exact hq _ _ _ h ha
      · replace ha := ha.2 c_1
        refine EX5_voiceAt h ha (fun o_3 A_2 S wo_3 h ha => ?_)
        refine ⟨fun c_5 => ?_, fun _ c_5 => ?_⟩
        · replace ha := ha.1 (Option.map_eq_none_iff.mp c_5)
          exact j30 (alX5_noteTotal_b4 nv md Q1 n) _ ih4 x1 x2 _ _ h ha
        · obtain ⟨a_4, dc_5, rfl⟩ := Option.map_eq_some_iff.mp c_5
          replace ha := ha.2 a_4 dc_5
          have va_4 := wo_3 a_4 dc_5
          refine ⟨_, _, cX6 h va_4, rfl, ?_⟩
          refine EX3_total h (q_nv va_4) ha (fun v_7 A_6 S h ha => ?_)
          exact j30 (alX5_noteTotal_b4 nv md Q1 n) _ ih4 (x1 + v_7) x2 _ _ h ha
  unfold wX5_noteTotal
  unfold aX5_noteTotal at ha
  refine ⟨⟨_, cX5 h⟩, ?_⟩
  exact j4 q_fuel (0 : Int32) (0 : Int32) _ _ h ha
set_option maxHeartbeats 2000000 in
theorem EX5_partTotal {ad : Nat → Nat} {nv : Nat} {md : Nat → Bool} {A : q_St} {S : q_S} (h : Rep ad nv md A S) {Q1 : Int32 → q_St → Prop} {Q2 : Int32 → q_S → Prop} (ha : aX5_partTotal nv md Q1 A) (hq : ∀ (r : Int32) (A : q_St) (S : q_S), Rep ad nv md A S → Q1 r A → Q2 r S) : wX5_partTotal (ad 1) Q2 S := by
  have j21 : ∀ (k4 : Int32 → Int32 → q_St → Prop) (m4 : Nat → Int32 → Int32 → q_S → Prop) (ih4 : ∀ (x1 : Int32) (x2 : Int32) (A : q_St) (S : q_S), Rep ad nv md A S → k4 x1 x2 A → m4 (ad 1) x1 x2 S) (x1 : Int32) (x2 : Int32) (A : q_St) (S : q_S), Rep ad nv md A S → aX5_partTotal_b21 nv md Q1 k4 x1 x2 A → wX5_partTotal_b21 Q2 m4 (ad 1) x1 x2 S := by
    intro k4 m4 ih4 x1 x2 A S h ha
    unfold wX5_partTotal_b21
    unfold aX5_partTotal_b21 at ha
    exact ih4 x1 (x2 + (1 : Int32)) _ _ h ha
  have j4 : ∀ (n : Nat), ∀ (x1 : Int32) (x2 : Int32) (A : q_St) (S : q_S), Rep ad nv md A S → alX5_partTotal_b4 nv md Q1 n x1 x2 A → lX5_partTotal_b4 Q2 n (ad 1) x1 x2 S := by
    intro n
    induction n with
    | zero => intro x1 x2 A S h ha; exact absurd ha (fun h => h)
    | succ n ih4 =>
      intro x1 x2 A S h ha
      show wX5_partTotal_b4 Q2 (lX5_partTotal_b4 Q2 n) (ad 1) x1 x2 S
      have ha : aX5_partTotal_b4 nv md Q1 (alX5_partTotal_b4 nv md Q1 n) x1 x2 A := ha
      unfold wX5_partTotal_b4
      unfold aX5_partTotal_b4 at ha
      refine ⟨fun c_1 => ?_, fun c_1 => ?_⟩
      · replace ha := ha.1 c_1
        exact hq _ _ _ h ha
      · replace ha := ha.2 c_1
        refine EX5_partOf h ha (fun o_3 A_2 S wo_3 h ha => ?_)
        refine ⟨fun c_5 => ?_, fun _ c_5 => ?_⟩
        · replace ha := ha.1 (Option.map_eq_none_iff.mp c_5)
          exact j21 (alX5_partTotal_b4 nv md Q1 n) _ ih4 x1 x2 _ _ h ha
        · obtain ⟨a_4, dc_5, rfl⟩ := Option.map_eq_some_iff.mp c_5
          replace ha := ha.2 a_4 dc_5
          have va_4 := wo_3 a_4 dc_5
          exact j21 (alX5_partTotal_b4 nv md Q1 n) _ ih4 (x1 + (1 : Int32)) x2 _ _ h ha
  unfold wX5_partTotal
  unfold aX5_partTotal at ha
  refine ⟨⟨_, cX5 h⟩, ?_⟩
  exact j4 q_fuel (0 : Int32) (0 : Int32) _ _ h ha
set_option maxHeartbeats 2000000 in
theorem EX2_total {ad : Nat → Nat} {nv : Nat} {md : Nat → Bool} {A : q_St} {S : q_S} (h : Rep ad nv md A S) {Q1 : Int32 → q_St → Prop} {Q2 : Int32 → q_S → Prop} (ha : aX2_total nv md Q1 A) (hq : ∀ (r : Int32) (A : q_St) (S : q_S), Rep ad nv md A S → Q1 r A → Q2 r S) : wX2_total (ad 3) Q2 S := by
  have j27 : ∀ (k4 : Int32 → Int32 → q_St → Prop) (m4 : Nat → Int32 → Int32 → q_S → Prop) (ih4 : ∀ (x1 : Int32) (x2 : Int32) (A : q_St) (S : q_S), Rep ad nv md A S → k4 x1 x2 A → m4 (ad 3) x1 x2 S) (x1 : Int32) (x2 : Int32) (A : q_St) (S : q_S), Rep ad nv md A S → aX2_total_b27 nv md Q1 k4 x1 x2 A → wX2_total_b27 Q2 m4 (ad 3) x1 x2 S := by
    intro k4 m4 ih4 x1 x2 A S h ha
    unfold wX2_total_b27
    unfold aX2_total_b27 at ha
    exact ih4 x1 (x2 + (1 : Int32)) _ _ h ha
  have j4 : ∀ (n : Nat), ∀ (x1 : Int32) (x2 : Int32) (A : q_St) (S : q_S), Rep ad nv md A S → alX2_total_b4 nv md Q1 n x1 x2 A → lX2_total_b4 Q2 n (ad 3) x1 x2 S := by
    intro n
    induction n with
    | zero => intro x1 x2 A S h ha; exact absurd ha (fun h => h)
    | succ n ih4 =>
      intro x1 x2 A S h ha
      show wX2_total_b4 Q2 (lX2_total_b4 Q2 n) (ad 3) x1 x2 S
      have ha : aX2_total_b4 nv md Q1 (alX2_total_b4 nv md Q1 n) x1 x2 A := ha
      unfold wX2_total_b4
      unfold aX2_total_b4 at ha
      refine ⟨_, _, cX2 h, rfl, ?_⟩
      refine e_ln h isaX2_held ?_
      refine ⟨fun c_1 => ?_, fun c_1 => ?_⟩
      · replace ha := ha.1 c_1
        exact hq _ _ _ h ha
      · replace ha := ha.2 c_1
        refine ⟨_, _, cX2 h, rfl, ?_⟩
        refine e_l h isaX2_held ha (fun ha => ?_)
        refine ⟨fun c_2 => ?_, fun c_2 => ?_⟩
        · replace ha := ha.1 c_2
          exact j27 (alX2_total_b4 nv md Q1 n) _ ih4 x1 x2 _ _ h ha
        · replace ha := ha.2 c_2
          exact j27 (alX2_total_b4 nv md Q1 n) _ ih4 (x1 + (1 : Int32)) x2 _ _ h ha
  unfold wX2_total
  unfold aX2_total at ha
  refine ⟨⟨_, cX2 h⟩, ?_⟩
  exact j4 q_fuel (0 : Int32) (0 : Int32) _ _ h ha
set_option maxHeartbeats 2000000 in
theorem EX7_count {ad : Nat → Nat} {nv : Nat} {md : Nat → Bool} {A : q_St} {S : q_S} {x1 : Int32} (h : Rep ad nv md A S) {Q1 : Int32 → q_St → Prop} {Q2 : Int32 → q_S → Prop} (ha : aX7_count nv md x1 Q1 A) (hq : ∀ (r : Int32) (A : q_St) (S : q_S), Rep ad nv md A S → Q1 r A → Q2 r S) : wX7_count (ad 0) x1 Q2 S := by
  unfold wX7_count
  unfold aX7_count at ha
  refine ⟨⟨_, cX7 h⟩, ?_⟩
  refine ⟨fun c => ?_, fun c => ?_, fun c => ?_, fun c => ?_, fun c => ?_, fun c => ?_, fun c => ?_⟩
  · replace ha := ha.1 c
    exact hq _ _ _ h ha
  · replace ha := ha.2.1 c
    refine ⟨_, _, cX7 h, rfl, ?_⟩
    refine ⟨_, _, cX5 h, rfl, ?_⟩
    exact hq _ _ _ h ha
  · replace ha := ha.2.2.1 c
    refine ⟨_, _, cX7 h, rfl, ?_⟩
    refine ⟨_, _, cX5 h, rfl, ?_⟩
    exact hq _ _ _ h ha
  · replace ha := ha.2.2.2.1 c
    refine ⟨_, _, cX7 h, rfl, ?_⟩
    refine EX5_noteTotal h ha (fun v_2 A_1 S h ha => ?_)
    exact hq _ _ _ h ha
  · replace ha := ha.2.2.2.2.1 c
    refine ⟨_, _, cX7 h, rfl, ?_⟩
    refine EX5_partTotal h ha (fun v_4 A_3 S h ha => ?_)
    exact hq _ _ _ h ha
  · replace ha := ha.2.2.2.2.2.1 c
    refine EX7_lastNumberAhead h ha (fun v_6 A_5 S h ha => ?_)
    exact hq _ _ _ h ha
  · replace ha := ha.2.2.2.2.2.2 c
    refine ⟨_, _, cX7 h, rfl, ?_⟩
    refine ⟨_, _, cX5 h, rfl, ?_⟩
    refine EX2_total h ha (fun v_8 A_7 S h ha => ?_)
    exact hq _ _ _ h ha
