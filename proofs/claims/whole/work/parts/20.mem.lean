/-! The pool by numbers: every object and array of class and model has a number; ad gives its address, A what its cells hold. -/
abbrev q_St : Type := Nat → Nat → Int32
def q_u (A : q_St) (i k : Nat) (x : Int32) : q_St := fun j => if j = i then upd (A i) k x else A j
theorem q_u_self (A : q_St) (i k : Nat) (x : Int32) : q_u A i k x i = upd (A i) k x := by simp [q_u]
theorem q_u_ne (A : q_St) {i j : Nat} (k : Nat) (x : Int32) (h : j ≠ i) : q_u A i k x j = A j := by simp [q_u, h]
def pq (md : Nat → Bool) (v : Nat) : Option Nat := if md v then some (64 + 5 * v) else none
def q_mz (i : Nat) : Bool := i == 137 || i == 142 || i == 160 || i == 165
def q_ma (i : Nat) : Bool := i == 132 || i == 133 || i == 134 || i == 135 || i == 136 || i == 138 || i == 139 || i == 140 || i == 143 || i == 144 || i == 145 || i == 146 || i == 147 || i == 148 || i == 149 || i == 150 || i == 151 || i == 154 || i == 157 || i == 158 || i == 159 || i == 162 || i == 163 || i == 164 || i == 137 || i == 142 || i == 160 || i == 165
def q_ml (i : Nat) : Nat := if i = 132 then 240 else if i = 133 then 1920 else if i = 134 then 1920 else if i = 135 then 1920 else if i = 136 then 1920 else if i = 138 then 200 else if i = 139 then 6 else if i = 140 then 6 else if i = 143 then 7 else if i = 144 then 280 else if i = 145 then 280 else if i = 146 then 280 else if i = 147 then 280 else if i = 148 then 280 else if i = 149 then 280 else if i = 150 then 280 else if i = 151 then 8960 else if i = 154 then 41 else if i = 157 then 40 else if i = 158 then 40 else if i = 159 then 40 else if i = 162 then 40 else if i = 163 then 40 else if i = 164 then 40 else if i = 137 then 200 else if i = 142 then 7 else if i = 160 then 40 else if i = 165 then 40 else 0
def cellX (ad : Nat → Nat) (nv : Nat) (md : Nat → Bool) (i : Nat) (c : Nat → Int32) : q_C :=
  if i = 0 then kO 6 [.ref (ad 1), .ref (ad 5), .ref (ad 8), .ref (ad 94), .int (c 4), .int (c 5)] else
  if i = 1 then kO 4 [.ref (ad 2), .ref (ad 3), .int (c 2), .int (c 3), .int (c 4)] else
  if i = 2 then kV 6 (fun v => if v < nv then some (ad (16 + 4 * v)) else none) else
  if i = 3 then kO 1 [.ref (ad 4)] else
  if i = 4 then kI 200 c else
  if i = 5 ∨ i = 8 then kO 0 [.ref (ad (i + 1)), .ref (ad (i + 2)), .int (c 2), .int (c 3)] else
  if i = 6 ∨ i = 9 then kI 41 c else
  if i = 7 ∨ i = 10 then kI 160 c else
  if i < 64 then
    (if i % 4 = 0 then kO 5 [.int (c 0), .ref (ad (i + 1)), .int (c 2), .int (c 3), va_rf ((pq md ((i - 16) / 4)).map ad)] else
     if i % 4 = 1 then kO 2 [.ref (ad (i + 1)), .ref (ad (i + 2))] else
     if i % 4 = 2 then kI 40 c else kI 1280 c) else
  if i < 128 then
    (if i % 5 = 4 then kO 3 [.ref (ad (i + 1)), .ref (ad (i + 2)), .int (c 2)] else
     if i % 5 = 0 then kI 280 c else
     if i % 5 = 1 then kO 2 [.ref (ad (i + 1)), .ref (ad (i + 2))] else
     if i % 5 = 2 then kI 40 c else kI 1280 c) else
  if i = 128 then kO 7 [.int (c 0), .int (c 1), .ref (ad 132), .ref (ad 133), .ref (ad 134), .ref (ad 135), .ref (ad 136), .ref (ad 137), .ref (ad 138), .ref (ad 139), .ref (ad 140), .int (c 11), .ref (ad 142), .ref (ad 143), .ref (ad 144), .ref (ad 145), .ref (ad 146), .ref (ad 147), .ref (ad 148), .ref (ad 149), .ref (ad 150), .ref (ad 151), .int (c 22), .int (c 23), .ref (ad 154), .int (c 25), .int (c 26), .ref (ad 157), .ref (ad 158), .ref (ad 159), .ref (ad 160), .int (c 31), .ref (ad 162), .ref (ad 163), .ref (ad 164), .ref (ad 165)] else
  if q_mz i = true then kZ (q_ml i) c else kI (q_ml i) c
def q_V (nv : Nat) (md : Nat → Bool) (i : Nat) : Prop := i ≤ 10 ∨ (16 ≤ i ∧ i < 16 + 4 * nv) ∨ (64 ≤ i ∧ i < 94 ∧ md ((i - 64) / 5) = true) ∨ (94 ≤ i ∧ i < 99) ∨ i = 128 ∨ q_ma i = true
def Rep (ad : Nat → Nat) (nv : Nat) (md : Nat → Bool) (A : q_St) (S : q_S) : Prop :=
  nv ≤ 6 ∧ (∀ v, md v = true → v < nv) ∧ (∀ i j, q_V nv md i → q_V nv md j → ad i = ad j → i = j) ∧ ∀ i, q_V nv md i → S (ad i) = some (cellX ad nv md i (A i))
def q_VO (nv i : Nat) : Prop := ∃ v, v < nv ∧ i = 16 + 4 * v
def q_PT (md : Nat → Bool) (i : Nat) : Prop := (∃ v, v < 6 ∧ md v = true ∧ i = 64 + 5 * v) ∨ i = 94
def q_NT (nv : Nat) (md : Nat → Bool) (i : Nat) : Prop := (∃ v, v < nv ∧ i = 17 + 4 * v) ∨ (∃ j, q_PT md j ∧ i = j + 2)
def q_LY (i : Nat) : Prop := i = 5 ∨ i = 8
theorem q_l5 : q_LY 5 := Or.inl rfl
theorem q_l8 : q_LY 8 := Or.inr rfl
theorem q_p94 {md : Nat → Bool} : q_PT md 94 := Or.inr rfl
theorem q_nv {nv : Nat} {md : Nat → Bool} {i : Nat} (h : q_VO nv i) : q_NT nv md (i + 1) := by
  obtain ⟨v, h1, rfl⟩ := h
  exact Or.inl ⟨v, h1, by omega⟩
theorem q_np {nv : Nat} {md : Nat → Bool} {i : Nat} (h : q_PT md i) : q_NT nv md (i + 2) := Or.inr ⟨i, h, rfl⟩
theorem q_vs {P : Nat → Prop} {i : Nat} (h : P i) : ∀ j, some i = some j → P j := fun j e => by cases e; exact h
theorem q_vn {P : Nat → Prop} : ∀ j, (none : Option Nat) = some j → P j := fun j e => by cases e
theorem q_vp {nv : Nat} {md : Nat → Bool} {i : Nat} (h : q_VO nv i) (hn : nv ≤ 6) : ∀ j, pq md ((i - 16) / 4) = some j → q_PT md j := by
  obtain ⟨v, h1, rfl⟩ := h
  intro j hj
  have e : (16 + 4 * v - 16) / 4 = v := by omega
  rw [e] at hj
  unfold pq at hj
  split at hj
  · next hm => cases hj; exact Or.inl ⟨v, by omega, hm, rfl⟩
  · cases hj
section QE
variable {ad : Nat → Nat} {nv : Nat} {md : Nat → Bool} {A : q_St} {S : q_S} {i : Nat}
theorem q_VO.V (hv : q_VO nv i) : q_V nv md i := by
  obtain ⟨v, h1, rfl⟩ := hv
  exact Or.inr (Or.inl ⟨by omega, by omega⟩)
theorem q_PT.V (hv : q_PT md i) {d : Nat} (hd : d < 5) : q_V nv md (i + d) := by
  rcases hv with ⟨v, h1, h2, rfl⟩ | rfl
  · refine Or.inr (Or.inr (Or.inl ⟨by omega, by omega, ?_⟩))
    have e : (64 + 5 * v + d - 64) / 5 = v := by omega
    rw [e]; exact h2
  · exact Or.inr (Or.inr (Or.inr (Or.inl ⟨by omega, by omega⟩)))
theorem q_NT.V (hv : q_NT nv md i) {d : Nat} (hd : d < 3) : q_V nv md (i + d) := by
  rcases hv with ⟨v, h1, rfl⟩ | ⟨j, hj, rfl⟩
  · exact Or.inr (Or.inl ⟨by omega, by omega⟩)
  · rw [Nat.add_assoc]; exact hj.V (by omega)
theorem q_LY.V (hv : q_LY i) {d : Nat} (hd : d < 3) : q_V nv md (i + d) := by
  rcases hv with rfl | rfl <;> exact Or.inl (by omega)
theorem cX7 (h : Rep ad nv md A S) : S (ad 0) = some (kO 6 [.ref (ad 1), .ref (ad 5), .ref (ad 8), .ref (ad 94), .int (A 0 4), .int (A 0 5)]) := h.2.2.2 0 (Or.inl (by omega))
theorem cX5 (h : Rep ad nv md A S) : S (ad 1) = some (kO 4 [.ref (ad 2), .ref (ad 3), .int (A 1 2), .int (A 1 3), .int (A 1 4)]) := h.2.2.2 1 (Or.inl (by omega))
theorem cX2 (h : Rep ad nv md A S) : S (ad 3) = some (kO 1 [.ref (ad 4)]) := h.2.2.2 3 (Or.inl (by omega))
theorem cVA (h : Rep ad nv md A S) : S (ad 2) = some (kV 6 (fun v => if v < nv then some (ad (16 + 4 * v)) else none)) := h.2.2.2 2 (Or.inl (by omega))
theorem cX1 (h : Rep ad nv md A S) (hv : q_LY i) : S (ad i) = some (kO 0 [.ref (ad (i + 1)), .ref (ad (i + 2)), .int (A i 2), .int (A i 3)]) := by
  rcases hv with rfl | rfl
  · exact h.2.2.2 5 (Or.inl (by omega))
  · exact h.2.2.2 8 (Or.inl (by omega))
theorem kX6 (hn : nv ≤ 6) (hv : q_VO nv i) (c : Nat → Int32) : cellX ad nv md i c = kO 5 [.int (c 0), .ref (ad (i + 1)), .int (c 2), .int (c 3), va_rf ((pq md ((i - 16) / 4)).map ad)] := by
  obtain ⟨v, h1, rfl⟩ := hv
  unfold cellX
  rw [if_neg (by omega), if_neg (by omega), if_neg (by omega), if_neg (by omega), if_neg (by omega), if_neg (by omega), if_neg (by omega), if_neg (by omega), if_pos (by omega), if_pos (by omega)]
theorem cX6 (h : Rep ad nv md A S) (hv : q_VO nv i) : S (ad i) = some (kO 5 [.int (A i 0), .ref (ad (i + 1)), .int (A i 2), .int (A i 3), va_rf ((pq md ((i - 16) / 4)).map ad)]) := by
  rw [h.2.2.2 i hv.V, kX6 h.1 hv]
theorem kX4 (hv : q_PT md i) (c : Nat → Int32) : cellX ad nv md i c = kO 3 [.ref (ad (i + 1)), .ref (ad (i + 2)), .int (c 2)] := by
  have h1 : 64 ≤ i ∧ i < 99 ∧ i % 5 = 4 := by rcases hv with ⟨v, h1, h2, rfl⟩ | rfl <;> omega
  unfold cellX
  rw [if_neg (by omega), if_neg (by omega), if_neg (by omega), if_neg (by omega), if_neg (by omega), if_neg (by omega), if_neg (by omega), if_neg (by omega), if_neg (by omega), if_pos (by omega), if_pos (by omega)]
theorem cX4 (h : Rep ad nv md A S) (hv : q_PT md i) : S (ad i) = some (kO 3 [.ref (ad (i + 1)), .ref (ad (i + 2)), .int (A i 2)]) := by
  rw [h.2.2.2 i (hv.V (d := 0) (by omega)), kX4 hv]
theorem kX3 (hn : nv ≤ 6) (hv : q_NT nv md i) (c : Nat → Int32) : cellX ad nv md i c = kO 2 [.ref (ad (i + 1)), .ref (ad (i + 2))] ∧ cellX ad nv md (i + 1) c = kI 40 c ∧ cellX ad nv md (i + 2) c = kI 1280 c := by
  rcases hv with ⟨v, h1, rfl⟩ | ⟨j, hj, rfl⟩
  · unfold cellX
    refine ⟨?_, ?_, ?_⟩
    · rw [if_neg (by omega), if_neg (by omega), if_neg (by omega), if_neg (by omega), if_neg (by omega), if_neg (by omega), if_neg (by omega), if_neg (by omega), if_pos (by omega), if_neg (by omega), if_pos (by omega)]
    · rw [if_neg (by omega), if_neg (by omega), if_neg (by omega), if_neg (by omega), if_neg (by omega), if_neg (by omega), if_neg (by omega), if_neg (by omega), if_pos (by omega), if_neg (by omega), if_neg (by omega), if_pos (by omega)]
    · rw [if_neg (by omega), if_neg (by omega), if_neg (by omega), if_neg (by omega), if_neg (by omega), if_neg (by omega), if_neg (by omega), if_neg (by omega), if_pos (by omega), if_neg (by omega), if_neg (by omega), if_neg (by omega)]
  · have h1 : 64 ≤ j ∧ j < 99 ∧ j % 5 = 4 := by rcases hj with ⟨v, h1, h2, rfl⟩ | rfl <;> omega
    unfold cellX
    refine ⟨?_, ?_, ?_⟩
    · rw [if_neg (by omega), if_neg (by omega), if_neg (by omega), if_neg (by omega), if_neg (by omega), if_neg (by omega), if_neg (by omega), if_neg (by omega), if_neg (by omega), if_pos (by omega), if_neg (by omega), if_neg (by omega), if_pos (by omega)]
    · rw [if_neg (by omega), if_neg (by omega), if_neg (by omega), if_neg (by omega), if_neg (by omega), if_neg (by omega), if_neg (by omega), if_neg (by omega), if_neg (by omega), if_pos (by omega), if_neg (by omega), if_neg (by omega), if_neg (by omega), if_pos (by omega)]
    · rw [if_neg (by omega), if_neg (by omega), if_neg (by omega), if_neg (by omega), if_neg (by omega), if_neg (by omega), if_neg (by omega), if_neg (by omega), if_neg (by omega), if_pos (by omega), if_neg (by omega), if_neg (by omega), if_neg (by omega), if_neg (by omega)]
theorem cX3 (h : Rep ad nv md A S) (hv : q_NT nv md i) : S (ad i) = some (kO 2 [.ref (ad (i + 1)), .ref (ad (i + 2))]) := by
  rw [h.2.2.2 i (hv.V (d := 0) (by omega)), (kX3 h.1 hv _).1]
theorem cX8 (h : Rep ad nv md A S) : S (ad 128) = some (kO 7 [.int (A 128 0), .int (A 128 1), .ref (ad 132), .ref (ad 133), .ref (ad 134), .ref (ad 135), .ref (ad 136), .ref (ad 137), .ref (ad 138), .ref (ad 139), .ref (ad 140), .int (A 128 11), .ref (ad 142), .ref (ad 143), .ref (ad 144), .ref (ad 145), .ref (ad 146), .ref (ad 147), .ref (ad 148), .ref (ad 149), .ref (ad 150), .ref (ad 151), .int (A 128 22), .int (A 128 23), .ref (ad 154), .int (A 128 25), .int (A 128 26), .ref (ad 157), .ref (ad 158), .ref (ad 159), .ref (ad 160), .int (A 128 31), .ref (ad 162), .ref (ad 163), .ref (ad 164), .ref (ad 165)]) := h.2.2.2 128 (Or.inr (Or.inr (Or.inr (Or.inr (Or.inl rfl)))))
def isA (nv : Nat) (md : Nat → Bool) (j n : Nat) : Prop := q_V nv md j ∧ (nv ≤ 6 → ∀ (ad : Nat → Nat) (c : Nat → Int32), cellX ad nv md j c = kI n c)
def isZ (nv : Nat) (md : Nat → Bool) (j n : Nat) : Prop := q_V nv md j ∧ (nv ≤ 6 → ∀ (ad : Nat → Nat) (c : Nat → Int32), cellX ad nv md j c = kZ n c)
theorem isaX3_sizes (hv : q_NT nv md i) : isA nv md (i + 1) 40 := ⟨hv.V (by omega), fun hn _ c => (kX3 hn hv c).2.1⟩
theorem isaX3_figures (hv : q_NT nv md i) : isA nv md (i + 2) 1280 := ⟨hv.V (by omega), fun hn _ c => (kX3 hn hv c).2.2⟩
theorem isaX4_figures (hv : q_PT md i) : isA nv md (i + 1) 280 := by
  refine ⟨hv.V (by omega), fun hn ad c => ?_⟩
  have h1 : 64 ≤ i ∧ i < 99 ∧ i % 5 = 4 := by rcases hv with ⟨v, h1, h2, rfl⟩ | rfl <;> omega
  unfold cellX
  rw [if_neg (by omega), if_neg (by omega), if_neg (by omega), if_neg (by omega), if_neg (by omega), if_neg (by omega), if_neg (by omega), if_neg (by omega), if_neg (by omega), if_pos (by omega), if_neg (by omega), if_pos (by omega)]
theorem isaX1_systemRows (hv : q_LY i) : isA nv md (i + 1) 41 := by
  refine ⟨hv.V (by omega), fun _ ad c => ?_⟩
  rcases hv with rfl | rfl <;> rfl
theorem isaX1_figures (hv : q_LY i) : isA nv md (i + 2) 160 := by
  refine ⟨hv.V (by omega), fun _ ad c => ?_⟩
  rcases hv with rfl | rfl <;> rfl
theorem isaX2_held : isA nv md 4 200 := ⟨Or.inl (by omega), fun _ _ _ => rfl⟩
theorem isaX8_many : isA nv md 132 240 := ⟨Or.inr (Or.inr (Or.inr (Or.inr (Or.inr (by decide))))), fun _ _ _ => rfl⟩
theorem isaX8_start : isA nv md 133 1920 := ⟨Or.inr (Or.inr (Or.inr (Or.inr (Or.inr (by decide))))), fun _ _ _ => rfl⟩
theorem isaX8_length : isA nv md 134 1920 := ⟨Or.inr (Or.inr (Or.inr (Or.inr (Or.inr (by decide))))), fun _ _ _ => rfl⟩
theorem isaX8_pitch : isA nv md 135 1920 := ⟨Or.inr (Or.inr (Or.inr (Or.inr (Or.inr (by decide))))), fun _ _ _ => rfl⟩
theorem isaX8_spelling : isA nv md 136 1920 := ⟨Or.inr (Or.inr (Or.inr (Or.inr (Or.inr (by decide))))), fun _ _ _ => rfl⟩
theorem isaX8_hasMark : isZ nv md 137 200 := ⟨Or.inr (Or.inr (Or.inr (Or.inr (Or.inr (by decide))))), fun _ _ _ => rfl⟩
theorem isaX8_markValue : isA nv md 138 200 := ⟨Or.inr (Or.inr (Or.inr (Or.inr (Or.inr (by decide))))), fun _ _ _ => rfl⟩
theorem isaX8_fifths : isA nv md 139 6 := ⟨Or.inr (Or.inr (Or.inr (Or.inr (Or.inr (by decide))))), fun _ _ _ => rfl⟩
theorem isaX8_octaves : isA nv md 140 6 := ⟨Or.inr (Or.inr (Or.inr (Or.inr (Or.inr (by decide))))), fun _ _ _ => rfl⟩
theorem isaX8_isMade : isZ nv md 142 7 := ⟨Or.inr (Or.inr (Or.inr (Or.inr (Or.inr (by decide))))), fun _ _ _ => rfl⟩
theorem isaX8_rows : isA nv md 143 7 := ⟨Or.inr (Or.inr (Or.inr (Or.inr (Or.inr (by decide))))), fun _ _ _ => rfl⟩
theorem isaX8_sort : isA nv md 144 280 := ⟨Or.inr (Or.inr (Or.inr (Or.inr (Or.inr (by decide))))), fun _ _ _ => rfl⟩
theorem isaX8_first : isA nv md 145 280 := ⟨Or.inr (Or.inr (Or.inr (Or.inr (Or.inr (by decide))))), fun _ _ _ => rfl⟩
theorem isaX8_span : isA nv md 146 280 := ⟨Or.inr (Or.inr (Or.inr (Or.inr (Or.inr (by decide))))), fun _ _ _ => rfl⟩
theorem isaX8_width : isA nv md 147 280 := ⟨Or.inr (Or.inr (Or.inr (Or.inr (Or.inr (by decide))))), fun _ _ _ => rfl⟩
theorem isaX8_key : isA nv md 148 280 := ⟨Or.inr (Or.inr (Or.inr (Or.inr (Or.inr (by decide))))), fun _ _ _ => rfl⟩
theorem isaX8_cueFrom : isA nv md 149 280 := ⟨Or.inr (Or.inr (Or.inr (Or.inr (Or.inr (by decide))))), fun _ _ _ => rfl⟩
theorem isaX8_noteMany : isA nv md 150 280 := ⟨Or.inr (Or.inr (Or.inr (Or.inr (Or.inr (by decide))))), fun _ _ _ => rfl⟩
theorem isaX8_notes : isA nv md 151 8960 := ⟨Or.inr (Or.inr (Or.inr (Or.inr (Or.inr (by decide))))), fun _ _ _ => rfl⟩
theorem isaX8_system : isA nv md 154 41 := ⟨Or.inr (Or.inr (Or.inr (Or.inr (Or.inr (by decide))))), fun _ _ _ => rfl⟩
theorem isaX8_pageRow : isA nv md 157 40 := ⟨Or.inr (Or.inr (Or.inr (Or.inr (Or.inr (by decide))))), fun _ _ _ => rfl⟩
theorem isaX8_pageRows : isA nv md 158 40 := ⟨Or.inr (Or.inr (Or.inr (Or.inr (Or.inr (by decide))))), fun _ _ _ => rfl⟩
theorem isaX8_pageSystems : isA nv md 159 40 := ⟨Or.inr (Or.inr (Or.inr (Or.inr (Or.inr (by decide))))), fun _ _ _ => rfl⟩
theorem isaX8_turns : isZ nv md 160 40 := ⟨Or.inr (Or.inr (Or.inr (Or.inr (Or.inr (by decide))))), fun _ _ _ => rfl⟩
theorem isaX8_oldRow : isA nv md 162 40 := ⟨Or.inr (Or.inr (Or.inr (Or.inr (Or.inr (by decide))))), fun _ _ _ => rfl⟩
theorem isaX8_oldRows : isA nv md 163 40 := ⟨Or.inr (Or.inr (Or.inr (Or.inr (Or.inr (by decide))))), fun _ _ _ => rfl⟩
theorem isaX8_oldSystems : isA nv md 164 40 := ⟨Or.inr (Or.inr (Or.inr (Or.inr (Or.inr (by decide))))), fun _ _ _ => rfl⟩
theorem isaX8_oldTurns : isZ nv md 165 40 := ⟨Or.inr (Or.inr (Or.inr (Or.inr (Or.inr (by decide))))), fun _ _ _ => rfl⟩
theorem rep_set (h : Rep ad nv md A S) (hi : q_V nv md i) {A' : q_St} (hA : ∀ j, j ≠ i → A' j = A j) {x : q_C} (hx : x = cellX ad nv md i (A' i)) : Rep ad nv md A' (va_up S (ad i) (some x)) := by
  refine ⟨h.1, h.2.1, h.2.2.1, fun j hj => ?_⟩
  by_cases e : j = i
  · subst e
    rw [va_up_self, hx]
  · rw [va_up_ne _ _ (fun q => e (h.2.2.1 j i hj hi q)), hA j e]
    exact h.2.2.2 j hj
abbrev a_p (i k : Nat) (x : Int32) (A : q_St) (K : q_St → Prop) : Prop := K (q_u A i k x)
abbrev a_s (i n : Nat) (k x : Int32) (A : q_St) (K : q_St → Prop) : Prop := vp_in k n ∧ K (q_u A i k.toNatClampNeg x)
abbrev a_cp (i n : Nat) (sp dp c : Int32) (A : q_St) (K : q_St → Prop) : Prop := ¬ sp < 0 ∧ ¬ dp < 0 ∧ ¬ c < 0 ∧ sp.toNatClampNeg + c.toNatClampNeg ≤ n ∧ dp.toNatClampNeg + c.toNatClampNeg ≤ n ∧ K (fun j => if j = i then va_cpy (A i) (A i) sp.toNatClampNeg dp.toNatClampNeg c.toNatClampNeg else A j)
theorem e_p (h : Rep ad nv md A S) (hi : q_V nv md i) {ci k : Nat} {fs : List Value} {x : Int32} {K : q_S → Prop} {K' : q_St → Prop} (hc : S (ad i) = some (kO ci fs)) (hl : k < fs.length) (hc2 : kO ci (fs.set k (.int x)) = cellX ad nv md i (upd (A i) k x)) (ha : a_p i k x A K') (kk : ∀ (A' : q_St) (S' : q_S), Rep ad nv md A' S' → K' A' → K S') : q_pV ci k (ad i) (.int x) S K :=
  ⟨fs, hc, hl, kk _ _ (rep_set (A' := q_u A i k x) h hi (fun j hj => q_u_ne A k x hj) (by rw [q_u_self]; exact hc2)) ha⟩
theorem e_l (h : Rep ad nv md A S) {j n : Nat} (hj : isA nv md j n) {k : Int32} {P : Prop} {K : Int32 → Prop} (ha : vp_in k n ∧ P) (kk : P → K (A j k.toNatClampNeg)) : q_lI (ad j) k S K :=
  ⟨n, A j, by rw [h.2.2.2 j hj.1, hj.2 h.1], ha.1, kk ha.2⟩
theorem e_lz (h : Rep ad nv md A S) {j n : Nat} (hj : isZ nv md j n) {k : Int32} {P : Prop} {K : Int32 → Prop} (ha : vp_in k n ∧ P) (kk : P → K (A j k.toNatClampNeg)) : q_lZ (ad j) k S K :=
  ⟨n, A j, by rw [h.2.2.2 j hj.1, hj.2 h.1], ha.1, kk ha.2⟩
theorem e_ln (h : Rep ad nv md A S) {j n : Nat} (hj : isA nv md j n) {K : Int32 → Prop} (kk : K (Int32.ofNat n)) : q_ln (ad j) S K :=
  ⟨n, A j, by rw [h.2.2.2 j hj.1, hj.2 h.1], kk⟩
theorem e_s (h : Rep ad nv md A S) {j n : Nat} (hj : isA nv md j n) {k x : Int32} {K : q_S → Prop} {K' : q_St → Prop} (ha : a_s j n k x A K') (kk : ∀ (A' : q_St) (S' : q_S), Rep ad nv md A' S' → K' A' → K S') : q_sI (ad j) k x S K :=
  ⟨n, A j, by rw [h.2.2.2 j hj.1, hj.2 h.1], ha.1, kk _ _ (rep_set (A' := q_u A j k.toNatClampNeg x) h hj.1 (fun j hj => q_u_ne A _ x hj) (by rw [q_u_self, hj.2 h.1])) ha.2⟩
theorem e_sz (h : Rep ad nv md A S) {j n : Nat} (hj : isZ nv md j n) {k x : Int32} {K : q_S → Prop} {K' : q_St → Prop} (ha : a_s j n k (vp_nar .boolean x) A K') (kk : ∀ (A' : q_St) (S' : q_S), Rep ad nv md A' S' → K' A' → K S') : q_sZ (ad j) k x S K :=
  ⟨n, A j, by rw [h.2.2.2 j hj.1, hj.2 h.1], ha.1, kk _ _ (rep_set (A' := q_u A j k.toNatClampNeg (vp_nar .boolean x)) h hj.1 (fun j hj => q_u_ne A _ _ hj) (by rw [q_u_self, hj.2 h.1])) ha.2⟩
theorem e_cp (h : Rep ad nv md A S) {j n : Nat} (hj : isA nv md j n) {sp dp c : Int32} {K : q_S → Prop} {K' : q_St → Prop} (ha : a_cp j n sp dp c A K') (kk : ∀ (A' : q_St) (S' : q_S), Rep ad nv md A' S' → K' A' → K S') : q_cp (ad j) sp (ad j) dp c S K := by
  obtain ⟨h1, h2, h3, h4, h5, h6⟩ := ha
  refine ⟨n, A j, rfl, by rw [h.2.2.2 j hj.1, hj.2 h.1], h1, h2, h3, h4, h5, kk _ _ (rep_set (A' := fun q => if q = j then va_cpy (A j) (A j) sp.toNatClampNeg dp.toNatClampNeg c.toNatClampNeg else A q) h hj.1 (fun q hq => by simp [hq]) (by rw [hj.2 h.1]; simp)) h6⟩
theorem e_pX1_2 (h : Rep ad nv md A S) (hv : q_LY i) {x : Int32} {K : q_S → Prop} {K' : q_St → Prop} (ha : a_p i 2 x A K') (kk : ∀ (A' : q_St) (S' : q_S), Rep ad nv md A' S' → K' A' → K S') : q_pV 0 2 (ad i) (.int x) S K := e_p (i := i) h (hv.V (d := 0) (by omega)) (cX1 h hv) (Nat.le_of_ble_eq_true rfl) (by rcases hv with rfl | rfl <;> rfl) ha kk
theorem e_pX1_3 (h : Rep ad nv md A S) (hv : q_LY i) {x : Int32} {K : q_S → Prop} {K' : q_St → Prop} (ha : a_p i 3 x A K') (kk : ∀ (A' : q_St) (S' : q_S), Rep ad nv md A' S' → K' A' → K S') : q_pV 0 3 (ad i) (.int x) S K := e_p (i := i) h (hv.V (d := 0) (by omega)) (cX1 h hv) (Nat.le_of_ble_eq_true rfl) (by rcases hv with rfl | rfl <;> rfl) ha kk
theorem e_pX4_2 (h : Rep ad nv md A S) (hv : q_PT md i) {x : Int32} {K : q_S → Prop} {K' : q_St → Prop} (ha : a_p i 2 x A K') (kk : ∀ (A' : q_St) (S' : q_S), Rep ad nv md A' S' → K' A' → K S') : q_pV 3 2 (ad i) (.int x) S K := e_p (i := i) h (hv.V (d := 0) (by omega)) (cX4 h hv) (Nat.le_of_ble_eq_true rfl) (by rw [kX4 hv]; rfl) ha kk
theorem e_pX5_2 (h : Rep ad nv md A S) {x : Int32} {K : q_S → Prop} {K' : q_St → Prop} (ha : a_p 1 2 x A K') (kk : ∀ (A' : q_St) (S' : q_S), Rep ad nv md A' S' → K' A' → K S') : q_pV 4 2 (ad 1) (.int x) S K := e_p (i := 1) h (Or.inl (by omega)) (cX5 h) (Nat.le_of_ble_eq_true rfl) rfl ha kk
theorem e_pX5_3 (h : Rep ad nv md A S) {x : Int32} {K : q_S → Prop} {K' : q_St → Prop} (ha : a_p 1 3 x A K') (kk : ∀ (A' : q_St) (S' : q_S), Rep ad nv md A' S' → K' A' → K S') : q_pV 4 3 (ad 1) (.int x) S K := e_p (i := 1) h (Or.inl (by omega)) (cX5 h) (Nat.le_of_ble_eq_true rfl) rfl ha kk
theorem e_pX5_4 (h : Rep ad nv md A S) {x : Int32} {K : q_S → Prop} {K' : q_St → Prop} (ha : a_p 1 4 x A K') (kk : ∀ (A' : q_St) (S' : q_S), Rep ad nv md A' S' → K' A' → K S') : q_pV 4 4 (ad 1) (.int x) S K := e_p (i := 1) h (Or.inl (by omega)) (cX5 h) (Nat.le_of_ble_eq_true rfl) rfl ha kk
theorem e_pX6_2 (h : Rep ad nv md A S) (hv : q_VO nv i) {x : Int32} {K : q_S → Prop} {K' : q_St → Prop} (ha : a_p i 2 x A K') (kk : ∀ (A' : q_St) (S' : q_S), Rep ad nv md A' S' → K' A' → K S') : q_pV 5 2 (ad i) (.int x) S K := e_p (i := i) h hv.V (cX6 h hv) (Nat.le_of_ble_eq_true rfl) (by rw [kX6 h.1 hv]; rfl) ha kk
theorem e_pX6_3 (h : Rep ad nv md A S) (hv : q_VO nv i) {x : Int32} {K : q_S → Prop} {K' : q_St → Prop} (ha : a_p i 3 x A K') (kk : ∀ (A' : q_St) (S' : q_S), Rep ad nv md A' S' → K' A' → K S') : q_pV 5 3 (ad i) (.int x) S K := e_p (i := i) h hv.V (cX6 h hv) (Nat.le_of_ble_eq_true rfl) (by rw [kX6 h.1 hv]; rfl) ha kk
theorem e_pX7_4 (h : Rep ad nv md A S) {x : Int32} {K : q_S → Prop} {K' : q_St → Prop} (ha : a_p 0 4 x A K') (kk : ∀ (A' : q_St) (S' : q_S), Rep ad nv md A' S' → K' A' → K S') : q_pV 6 4 (ad 0) (.int x) S K := e_p (i := 0) h (Or.inl (by omega)) (cX7 h) (Nat.le_of_ble_eq_true rfl) rfl ha kk
theorem e_pX7_5 (h : Rep ad nv md A S) {x : Int32} {K : q_S → Prop} {K' : q_St → Prop} (ha : a_p 0 5 x A K') (kk : ∀ (A' : q_St) (S' : q_S), Rep ad nv md A' S' → K' A' → K S') : q_pV 6 5 (ad 0) (.int x) S K := e_p (i := 0) h (Or.inl (by omega)) (cX7 h) (Nat.le_of_ble_eq_true rfl) rfl ha kk
theorem e_pX8_0 (h : Rep ad nv md A S) {x : Int32} {K : q_S → Prop} {K' : q_St → Prop} (ha : a_p 128 0 x A K') (kk : ∀ (A' : q_St) (S' : q_S), Rep ad nv md A' S' → K' A' → K S') : q_pV 7 0 (ad 128) (.int x) S K := e_p (i := 128) h (Or.inr (Or.inr (Or.inr (Or.inr (Or.inl rfl))))) (cX8 h) (Nat.le_of_ble_eq_true rfl) rfl ha kk
theorem e_pX8_1 (h : Rep ad nv md A S) {x : Int32} {K : q_S → Prop} {K' : q_St → Prop} (ha : a_p 128 1 x A K') (kk : ∀ (A' : q_St) (S' : q_S), Rep ad nv md A' S' → K' A' → K S') : q_pV 7 1 (ad 128) (.int x) S K := e_p (i := 128) h (Or.inr (Or.inr (Or.inr (Or.inr (Or.inl rfl))))) (cX8 h) (Nat.le_of_ble_eq_true rfl) rfl ha kk
theorem e_pX8_11 (h : Rep ad nv md A S) {x : Int32} {K : q_S → Prop} {K' : q_St → Prop} (ha : a_p 128 11 x A K') (kk : ∀ (A' : q_St) (S' : q_S), Rep ad nv md A' S' → K' A' → K S') : q_pV 7 11 (ad 128) (.int x) S K := e_p (i := 128) h (Or.inr (Or.inr (Or.inr (Or.inr (Or.inl rfl))))) (cX8 h) (Nat.le_of_ble_eq_true rfl) rfl ha kk
theorem e_pX8_22 (h : Rep ad nv md A S) {x : Int32} {K : q_S → Prop} {K' : q_St → Prop} (ha : a_p 128 22 x A K') (kk : ∀ (A' : q_St) (S' : q_S), Rep ad nv md A' S' → K' A' → K S') : q_pV 7 22 (ad 128) (.int x) S K := e_p (i := 128) h (Or.inr (Or.inr (Or.inr (Or.inr (Or.inl rfl))))) (cX8 h) (Nat.le_of_ble_eq_true rfl) rfl ha kk
theorem e_pX8_23 (h : Rep ad nv md A S) {x : Int32} {K : q_S → Prop} {K' : q_St → Prop} (ha : a_p 128 23 x A K') (kk : ∀ (A' : q_St) (S' : q_S), Rep ad nv md A' S' → K' A' → K S') : q_pV 7 23 (ad 128) (.int x) S K := e_p (i := 128) h (Or.inr (Or.inr (Or.inr (Or.inr (Or.inl rfl))))) (cX8 h) (Nat.le_of_ble_eq_true rfl) rfl ha kk
theorem e_pX8_25 (h : Rep ad nv md A S) {x : Int32} {K : q_S → Prop} {K' : q_St → Prop} (ha : a_p 128 25 x A K') (kk : ∀ (A' : q_St) (S' : q_S), Rep ad nv md A' S' → K' A' → K S') : q_pV 7 25 (ad 128) (.int x) S K := e_p (i := 128) h (Or.inr (Or.inr (Or.inr (Or.inr (Or.inl rfl))))) (cX8 h) (Nat.le_of_ble_eq_true rfl) rfl ha kk
theorem e_pX8_26 (h : Rep ad nv md A S) {x : Int32} {K : q_S → Prop} {K' : q_St → Prop} (ha : a_p 128 26 x A K') (kk : ∀ (A' : q_St) (S' : q_S), Rep ad nv md A' S' → K' A' → K S') : q_pV 7 26 (ad 128) (.int x) S K := e_p (i := 128) h (Or.inr (Or.inr (Or.inr (Or.inr (Or.inl rfl))))) (cX8 h) (Nat.le_of_ble_eq_true rfl) rfl ha kk
theorem e_pX8_31 (h : Rep ad nv md A S) {x : Int32} {K : q_S → Prop} {K' : q_St → Prop} (ha : a_p 128 31 x A K') (kk : ∀ (A' : q_St) (S' : q_S), Rep ad nv md A' S' → K' A' → K S') : q_pV 7 31 (ad 128) (.int x) S K := e_p (i := 128) h (Or.inr (Or.inr (Or.inr (Or.inr (Or.inl rfl))))) (cX8 h) (Nat.le_of_ble_eq_true rfl) rfl ha kk
def aX5_voiceAt (nv : Nat) (md : Nat → Bool) (x1 : Int32) (Q : Option Nat → q_St → Prop) (A : q_St) : Prop := Q (if 0 ≤ x1.toInt ∧ x1.toInt < nv then some (16 + 4 * x1.toNatClampNeg) else none) A
theorem EX5_voiceAt {x1 : Int32} (h : Rep ad nv md A S) {Q1 : Option Nat → q_St → Prop} {Q2 : Option Nat → q_S → Prop} (ha : aX5_voiceAt nv md x1 Q1 A) (hq : ∀ (o : Option Nat) (A : q_St) (S : q_S), (∀ i, o = some i → q_VO nv i) → Rep ad nv md A S → Q1 o A → Q2 (o.map ad) S) : wX5_voiceAt (ad 1) x1 Q2 S := by
  unfold wX5_voiceAt
  unfold aX5_voiceAt at ha
  refine ⟨⟨_, cX5 h⟩, ?_⟩
  have hn := h.1
  have tn : ∀ x : Int32, (x < 0 ↔ x.toInt < 0) := fun x => Int32.lt_iff_toInt_lt
  refine ⟨fun c => ?_, fun c => ⟨fun c2 => ?_, fun c2 => ?_⟩⟩
  · rw [if_neg (by rw [tn] at c; omega)] at ha
    exact hq none _ _ q_vn h ha
  · have c3 : 6 ≤ x1.toInt := by rw [Int32.le_iff_toInt_le] at c2; exact c2
    rw [if_neg (by omega)] at ha
    exact hq none _ _ q_vn h ha
  · have c3 : ¬ 6 ≤ x1.toInt := by rw [Int32.le_iff_toInt_le] at c2; exact c2
    have c1 : ¬ x1.toInt < 0 := by rw [tn] at c; exact c
    refine ⟨_, _, cX5 h, rfl, _, _, cVA h, vp_in_iff.mpr ⟨by omega, by omega⟩, ?_⟩
    have e : (x1.toNatClampNeg : Int) = x1.toInt := by rw [Int32.toNatClampNeg]; omega
    by_cases hv : x1.toNatClampNeg < nv
    · rw [if_pos hv]
      rw [if_pos ⟨by omega, by omega⟩] at ha
      exact hq (some _) _ _ (q_vs ⟨_, hv, rfl⟩) h ha
    · rw [if_neg hv]
      rw [if_neg (by omega)] at ha
      exact hq none _ _ q_vn h ha
end QE
