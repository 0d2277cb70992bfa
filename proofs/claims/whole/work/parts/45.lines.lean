/-- SYSTEMS, ROW by ROW: how many, the WIDTH used in the last, the first ROW of each -/
def lnS (wd : Nat → Nat) (W : Nat) : Nat → Nat × Nat × (Nat → Nat)
  | 0 => (0, 0, fun _ => 0)
  | i + 1 => if i = 0 ∨ W < (lnS wd W i).2.1 + wd i then ((lnS wd W i).1 + 1, wd i, fun k => if k = (lnS wd W i).1 then i else (lnS wd W i).2.2 k) else ((lnS wd W i).1, (lnS wd W i).2.1 + wd i, (lnS wd W i).2.2)
def lyN (wd : Nat → Nat) (W i : Nat) : Nat := (lnS wd W i).1
def lyU (wd : Nat → Nat) (W i : Nat) : Nat := (lnS wd W i).2.1
def lyF (wd : Nat → Nat) (W i : Nat) : Nat → Nat := (lnS wd W i).2.2
theorem ln_new {wd : Nat → Nat} {W i : Nat} (h : i = 0 ∨ W < lyU wd W i + wd i) : lyN wd W (i + 1) = lyN wd W i + 1 ∧ lyU wd W (i + 1) = wd i ∧ ∀ k, lyF wd W (i + 1) k = if k = lyN wd W i then i else lyF wd W i k := by
  have e : lnS wd W (i + 1) = ((lnS wd W i).1 + 1, wd i, fun k => if k = (lnS wd W i).1 then i else (lnS wd W i).2.2 k) := if_pos h
  unfold lyN lyU lyF
  rw [e]
  exact ⟨rfl, rfl, fun _ => rfl⟩
theorem ln_old {wd : Nat → Nat} {W i : Nat} (h : ¬ (i = 0 ∨ W < lyU wd W i + wd i)) : lyN wd W (i + 1) = lyN wd W i ∧ lyU wd W (i + 1) = lyU wd W i + wd i ∧ ∀ k, lyF wd W (i + 1) k = lyF wd W i k := by
  have e : lnS wd W (i + 1) = ((lnS wd W i).1, (lnS wd W i).2.1 + wd i, (lnS wd W i).2.2) := if_neg h
  unfold lyN lyU lyF
  rw [e]
  exact ⟨rfl, rfl, fun _ => rfl⟩
theorem ln_inv {wd : Nat → Nat} {W n : Nat} (hw : ∀ i, i < n → wd i ≤ 20) (hW : W ≤ 60) : ∀ i, i ≤ n → lyN wd W i ≤ i ∧ lyU wd W i ≤ 80 ∧ (∀ k, k < lyN wd W i → lyF wd W i k < i) ∧ (∀ k, k + 1 < lyN wd W i → lyF wd W i k < lyF wd W i (k + 1)) ∧ (0 < i → 0 < lyN wd W i ∧ lyF wd W i 0 = 0) := by
  intro i
  induction i with
  | zero => intro _; exact ⟨Nat.le_refl 0, Nat.zero_le _, fun k h => absurd h (by exact Nat.not_lt_zero k), fun k h => absurd h (by exact Nat.not_lt_zero _), fun h => absurd h (by omega)⟩
  | succ i ih =>
    intro hi
    obtain ⟨a, b, c, d, e⟩ := ih (by omega)
    have hwi := hw i (by omega)
    by_cases h : i = 0 ∨ W < lyU wd W i + wd i
    · obtain ⟨f1, f2, f3⟩ := ln_new h
      rw [f1, f2]
      refine ⟨by omega, by omega, fun k hk => ?_, fun k hk => ?_, fun _ => ⟨by omega, ?_⟩⟩
      · rw [f3]
        by_cases q : k = lyN wd W i
        · rw [if_pos q]; omega
        · rw [if_neg q]; have := c k (by omega); omega
      · rw [f3, f3, if_neg (by omega)]
        by_cases q : k + 1 = lyN wd W i
        · rw [if_pos q]; exact c k (by omega)
        · rw [if_neg q]; exact d k (by omega)
      · rw [f3]
        by_cases q : 0 = lyN wd W i
        · rw [if_pos q]
          by_cases z : i = 0
          · exact z
          · have := (e (by omega)).1; omega
        · rw [if_neg q]
          by_cases z : i = 0
          · subst z; omega
          · exact (e (by omega)).2
    · obtain ⟨f1, f2, f3⟩ := ln_old h
      rw [f1, f2]
      refine ⟨by omega, by omega, fun k hk => ?_, fun k hk => ?_, fun _ => ⟨(e (by omega)).1, ?_⟩⟩
      · rw [f3]; have := c k hk; omega
      · rw [f3, f3]; exact d k hk
      · rw [f3]; exact (e (by omega)).2
section CLIN
variable {nv : Nat} {md : Nat → Bool} {A0 : q_St} {wd : Nat → Nat} {W rc : Nat}
def LI (wd : Nat → Nat) (W L : Nat) (A0 A : q_St) (i : Nat) : Prop := (∀ q m, q ≠ L → q ≠ L + 1 → A q m = A0 q m) ∧ (∀ m, m ≠ 2 → A L m = A0 L m) ∧ A L 2 = nI (lyN wd W i) ∧ ∀ k, k < lyN wd W i → A (L + 1) k = nI (lyF wd W i k)
theorem a1_fillL {L j : Nat} (hL : L ≤ 8) (hj : 64 ≤ j) (hw : ∀ i, i < rc → wd i ≤ 20) (hW : W ≤ 60) (hrc : rc ≤ 40) (h2 : A0 j 2 = nI rc) (h3 : ∀ i, i < rc → A0 (j + 1) (i * 7 + 3) = nI (wd i)) {Q : q_St → Prop} (hq : ∀ A : q_St, LI wd W L A0 A rc → A (L + 1) (lyN wd W rc) = nI rc → Q A) : ∀ (f i : Nat) (A : q_St), i ≤ rc → rc < f + i → LI wd W L A0 A i → alX1_fillSystems_b10 nv md Q f L j (nI W) (nI (lyU wd W i)) (nI i) A := by
  have inv := ln_inv hw hW
  intro f
  induction f with
  | zero => intro i A h1 h2; exact absurd h2 (by omega)
  | succ f ih =>
    intro i A hi hf hA
    obtain ⟨a1, a2, a3, a4⟩ := hA
    obtain ⟨b1, b2, b3, b4, b5⟩ := inv i hi
    show aX1_fillSystems_b10 nv md Q (alX1_fillSystems_b10 nv md Q f) L j (nI W) (nI (lyU wd W i)) (nI i) A
    unfold aX1_fillSystems_b10 aX1_fillSystems_b67 aX1_fillSystems_b48 aX1_fillSystems_b56
    have g2 : A j 2 = nI rc := by rw [a1 _ _ (by omega) (by omega)]; exact h2
    rw [g2, le_n (by omega) (by omega), e40, le_n (by omega) (by omega), a3]
    by_cases h : rc ≤ i
    · have ei : i = rc := by omega
      subst ei
      rw [brT h]
      have em : (if nI 40 < nI (lyN wd W i) then nI 40 else nI (lyN wd W i)) = nI (lyN wd W i) := if_neg (by rw [lt_n (by omega) (by omega)]; omega)
      rw [em, a_s_n (by omega) (by omega)]
      refine hq _ ⟨fun q m c1 c2 => by rw [qn c2]; exact a1 q m c1 c2, fun m hm => by rw [qn (by omega)]; exact a2 m hm, by rw [qn (by omega)]; exact a3, fun k hk => by rw [qs (by omega)]; exact a4 k hk⟩ qh
    · rw [brF h, brF (by omega), show (3 : Int32) = nI 3 from rfl, a4_fig g2 hrc (by omega) (by omega), a1 _ _ (by omega) (by omega), h3 i (by omega)]
      have wi := hw i (by omega)
      rw [e0, eq_n (by omega) (by omega)]
      simp only [e1, nI_add]
      rw [le_n (by omega) (by omega)]
      have hbeg : (i = 0 ∨ W < lyU wd W i + wd i) → aX1_beginSystem nv md L (nI i) (fun A_2 => alX1_fillSystems_b10 nv md Q f L j (nI W) (nI (0 + wd i)) (nI (i + 1)) A_2) A := by
        intro hn
        obtain ⟨f1, f2, f3⟩ := ln_new hn
        unfold aX1_beginSystem
        rw [a3, e40, le_n (by omega) (by omega), brF (by omega), a_s_n (by omega) (by omega), qn (by omega), a3, e1, nI_add, Nat.zero_add, ← f2]
        refine ih (i + 1) _ (by omega) (by omega) ⟨fun q m c1 c2 => ?_, fun m hm => ?_, ?_, fun k hk => ?_⟩
        · rw [qn c1, qn c2]; exact a1 q m c1 c2
        · rw [qs hm, qn (by omega)]; exact a2 m hm
        · rw [qh, f1]
        · rw [qn (by omega), qa, f3]
          rw [f1] at hk
          by_cases z : k = lyN wd W i
          · rw [if_pos ⟨rfl, z⟩, if_pos z]
          · rw [if_neg (by omega), if_neg z]; exact a4 k (by omega)
      by_cases hz : i = 0
      · rw [brT hz]; exact hbeg (Or.inl hz)
      · rw [brF hz]
        by_cases hw2 : lyU wd W i + wd i ≤ W
        · rw [brT hw2]
          obtain ⟨f1, f2, f3⟩ := ln_old (wd := wd) (W := W) (i := i) (by omega)
          rw [← f2]
          exact ih (i + 1) A (by omega) (by omega) ⟨a1, a2, by rw [f1]; exact a3, fun k hk => by rw [f3]; rw [f1] at hk; exact a4 k hk⟩
        · rw [brF hw2]; exact hbeg (Or.inr (by omega))
theorem a1_fill {L j : Nat} (hL : L ≤ 8) (hj : 64 ≤ j) (hw : ∀ i, i < rc → wd i ≤ 20) (hW : W ≤ 60) (hrc : rc ≤ 40) (h2 : A0 j 2 = nI rc) (h3 : ∀ i, i < rc → A0 (j + 1) (i * 7 + 3) = nI (wd i)) {Q : q_St → Prop} (hq : ∀ A : q_St, LI wd W L A0 A rc → A (L + 1) (lyN wd W rc) = nI rc → Q A) : aX1_fillSystems nv md L j (nI W) Q A0 := by
  unfold aX1_fillSystems
  exact a1_fillL hL hj hw hW hrc h2 h3 hq _ 0 _ (by omega) (by unfold q_fuel; omega) ⟨fun q m c1 c2 => qn c1, fun m hm => qs hm, qh, fun k hk => absurd hk (Nat.not_lt_zero k)⟩
def LM (wd : Nat → Nat) (W : Nat) (A0 A : q_St) (i : Nat) : Prop := (∀ q m, q ≠ 154 → (q ≠ 128 ∨ m ≠ 25) → A q m = A0 q m) ∧ A 128 25 = nI (lyN wd W i) ∧ ∀ k, k < lyN wd W i → A 154 k = nI (lyF wd W i k)
theorem a8_linesL {p : Nat} (hp : p ≤ 6) (hw : ∀ i, i < rc → wd i ≤ 20) (hW : W ≤ 60) (hrc : rc ≤ 40) (h2 : A0 143 p = nI rc) (h22 : A0 128 22 = nI W) (h3 : ∀ i, i < rc → A0 147 (40 * p + i) = nI (wd i)) {Q : q_St → Prop} (hq : ∀ A : q_St, LM wd W A0 A rc → A 154 (lyN wd W rc) = nI rc → Q A) : ∀ (f i : Nat) (A : q_St), i ≤ rc → rc < f + i → LM wd W A0 A i → alX8_lines_b9 nv md Q f (nI p) (nI (lyU wd W i)) (nI i) A := by
  have inv := ln_inv hw hW
  intro f
  induction f with
  | zero => intro i A h1 h2; exact absurd h2 (by omega)
  | succ f ih =>
    intro i A hi hf hA
    obtain ⟨a1, a3, a4⟩ := hA
    obtain ⟨b1, b2, b3, b4, b5⟩ := inv i hi
    show aX8_lines_b9 nv md Q (alX8_lines_b9 nv md Q f) (nI p) (nI (lyU wd W i)) (nI i) A
    unfold aX8_lines_b9 aX8_lines_b47 aX8_lines_b69
    have g2 : A 143 p = nI rc := by rw [a1 _ _ (by omega) (by omega)]; exact h2
    rw [in_n (by omega) (by omega), in_n (by omega) (by omega), cl_nI (by omega), g2, le_n (by omega) (by omega), a3]
    by_cases h : rc ≤ i
    · have ei : i = rc := by omega
      subst ei
      rw [brT h, a_s_n (by omega) (by omega)]
      refine hq _ ⟨fun q m c1 c2 => by rw [qn c1]; exact a1 q m c1 c2, by rw [qn (by omega)]; exact a3, fun k hk => by rw [qs (by omega)]; exact a4 k hk⟩ qh
    · rw [brF h, e40, n_ma, in_n (by omega) (by omega), cl_nI (by omega), a1 147 _ (by omega) (by omega), h3 i (by omega), a1 128 22 (by omega) (by omega), h22]
      have wi := hw i (by omega)
      rw [e0, eq_n (by omega) (by omega)]
      simp only [e1, nI_add]
      rw [le_n (by omega) (by omega)]
      have hbeg : (i = 0 ∨ W < lyU wd W i + wd i) → a_s 154 41 (nI (lyN wd W i)) (nI i) A (fun A_1 => a_p 128 25 (A_1 128 25 + nI 1) A_1 fun A_2 => alX8_lines_b9 nv md Q f (nI p) (nI (0 + wd i)) (nI (i + 1)) A_2) := by
        intro hn
        obtain ⟨f1, f2, f3⟩ := ln_new hn
        rw [a_s_n (by omega) (by omega), qn (by omega), a3, nI_add, Nat.zero_add, ← f2]
        refine ih (i + 1) _ (by omega) (by omega) ⟨fun q m c1 c2 => ?_, ?_, fun k hk => ?_⟩
        · rw [qa, if_neg (by omega), qn c1]; exact a1 q m c1 c2
        · rw [qh, f1]
        · rw [qn (by omega), qa, f3]
          rw [f1] at hk
          by_cases z : k = lyN wd W i
          · rw [if_pos ⟨rfl, z⟩, if_pos z]
          · rw [if_neg (by omega), if_neg z]; exact a4 k (by omega)
      by_cases hz : i = 0
      · rw [brT hz]; exact hbeg (Or.inl hz)
      · rw [brF hz]
        by_cases hw2 : lyU wd W i + wd i ≤ W
        · rw [brT hw2]
          obtain ⟨f1, f2, f3⟩ := ln_old (wd := wd) (W := W) (i := i) (by omega)
          rw [← f2]
          exact ih (i + 1) A (by omega) (by omega) ⟨a1, by rw [f1]; exact a3, fun k hk => by rw [f3]; rw [f1] at hk; exact a4 k hk⟩
        · rw [brF hw2]; exact hbeg (Or.inr (by omega))
theorem a8_lines {p : Nat} (hp : p ≤ 6) (hw : ∀ i, i < rc → wd i ≤ 20) (hW : W ≤ 60) (hrc : rc ≤ 40) (h2 : A0 143 p = nI rc) (h22 : A0 128 22 = nI W) (h3 : ∀ i, i < rc → A0 147 (40 * p + i) = nI (wd i)) {Q : q_St → Prop} (hq : ∀ A : q_St, LM wd W A0 A rc → A 154 (lyN wd W rc) = nI rc → Q A) : aX8_lines nv md (nI p) Q A0 := by
  unfold aX8_lines
  exact a8_linesL hp hw hW hrc h2 h22 h3 hq _ 0 _ (by omega) (by unfold q_fuel; omega) ⟨fun q m c1 c2 => by rw [qa, if_neg (by omega)], qh, fun k hk => absurd hk (Nat.not_lt_zero k)⟩
end CLIN
