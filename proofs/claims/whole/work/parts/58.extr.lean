section CEXTR
variable {nv nb : Nat} {md : Nat → Bool} {D A A' : q_St}
theorem m_keepK {Q : q_St → Prop} {K : Int32 → Int32 → q_St → Prop} {v i : Nat} (hv : v < 6) (hi : i < 40) (hq : ∀ B : q_St, (∀ q m, B q m = if q = 151 ∧ 32 * (40 * v + i) ≤ m ∧ m < 32 * (40 * v + i) + 32 then A 151 (32 * (240 + i) + (m - 32 * (40 * v + i))) else A q m) → K (nI v) (nI (i + 1)) B) : ∀ (f k : Nat) (B : q_St), k ≤ 32 → 32 < f + k → (∀ q m, B q m = if q = 151 ∧ 32 * (40 * v + i) ≤ m ∧ m < 32 * (40 * v + i) + k then A 151 (32 * (240 + i) + (m - 32 * (40 * v + i))) else A q m) → alX8_keep_b141 nv md Q K f (nI v) (nI i) (nI (40 * v + i)) (nI (240 + i)) (nI k) B := by
  intro f
  induction f with
  | zero => intro k B h1 h2; exact absurd h2 (by omega)
  | succ f ih =>
    intro k B h1 h2 hB
    show aX8_keep_b141 nv md Q K (alX8_keep_b141 nv md Q K f) (nI v) (nI i) (nI (40 * v + i)) (nI (240 + i)) (nI k) B
    unfold aX8_keep_b141
    rw [e32, le_n (by omega) (by omega), e1, nI_add]
    by_cases h : 32 ≤ k
    · rw [brT h]
      have ek : k = 32 := by omega
      subst ek
      exact hq B hB
    · rw [brF h, n_ma, n_ma, in_n (by omega) (by omega), a_s_n (by omega) (by omega), cl_nI (by omega), nI_add]
      refine ih (k + 1) _ (by omega) (by omega) (fun q m => ?_)
      rw [qa]
      by_cases z : q = 151 ∧ m = 32 * (40 * v + i) + k
      · rw [if_pos z, hB, if_neg (by omega), if_pos (by omega)]
        congr 1
        omega
      · rw [if_neg z, hB]
        by_cases y : q = 151 ∧ 32 * (40 * v + i) ≤ m ∧ m < 32 * (40 * v + i) + k
        · rw [if_pos y, if_pos (by omega)]
        · rw [if_neg y, if_neg (by omega)]
def KB (v i : Nat) (A0 A : q_St) : Prop := ∀ q m, A q m = if 144 ≤ q ∧ q ≤ 150 ∧ 40 * v ≤ m ∧ m < 40 * v + i then A0 q (240 + (m - 40 * v)) else if q = 151 ∧ 1280 * v ≤ m ∧ m < 1280 * v + 32 * i then A0 151 (7680 + (m - 1280 * v)) else A0 q m
def cp7 (A : q_St) (a b : Nat) : q_St := q_u (q_u (q_u (q_u (q_u (q_u (q_u A 144 a (A 144 b)) 145 a (A 145 b)) 146 a (A 146 b)) 147 a (A 147 b)) 148 a (A 148 b)) 149 a (A 149 b)) 150 a (A 150 b)
theorem cp7_at (A : q_St) (a b q m : Nat) : cp7 A a b q m = if 144 ≤ q ∧ q ≤ 150 ∧ m = a then A q b else A q m := by
  unfold cp7
  simp only [qa]
  by_cases h : 144 ≤ q ∧ q ≤ 150 ∧ m = a
  · rw [if_pos h]
    have hq : q = 144 ∨ q = 145 ∨ q = 146 ∨ q = 147 ∨ q = 148 ∨ q = 149 ∨ q = 150 := by omega
    obtain ⟨-, -, rfl⟩ := h
    rcases hq with e | e | e | e | e | e | e <;> subst e <;> simp
  · rw [if_neg h]
    rw [if_neg (by omega), if_neg (by omega), if_neg (by omega), if_neg (by omega), if_neg (by omega), if_neg (by omega), if_neg (by omega)]
theorem m_keepL {A0 : q_St} {Q : q_St → Prop} {v rc : Nat} (hv : v < 6) (hr : rc ≤ 40) (h6 : A0 143 6 = nI rc) (hq : ∀ B : q_St, KB v rc A0 B → Q B) : ∀ (f i : Nat) (B : q_St), i ≤ rc → rc < f + i → KB v i A0 B → alX8_keep_b22 nv md Q f (nI v) (nI i) B := by
  intro f
  induction f with
  | zero => intro i B h1 h2; exact absurd h2 (by omega)
  | succ f ih =>
    intro i B h1 h2 hB
    show aX8_keep_b22 nv md Q (alX8_keep_b22 nv md Q f) (nI v) (nI i) B
    unfold aX8_keep_b22
    have b6 : B 143 6 = nI rc := by rw [hB, if_neg (by omega), if_neg (by omega)]; exact h6
    rw [show (6 : Int32) = nI 6 from rfl, in_n (by omega) (by omega), cl_nI (by omega), b6, le_n (by omega) (by omega)]
    by_cases h : rc ≤ i
    · rw [brT h]
      have ek : i = rc := by omega
      subst ek
      exact hq B hB
    · rw [brF h, show (240 : Int32) = nI 240 from rfl, nI_add, e40, n_ma, in_n (by omega) (by omega), cl_nI (by omega), a_s_n (by omega) (by omega), in_n (by omega) (by omega), a_s_n (by omega) (by omega), in_n (by omega) (by omega), a_s_n (by omega) (by omega), in_n (by omega) (by omega), a_s_n (by omega) (by omega), in_n (by omega) (by omega), a_s_n (by omega) (by omega), in_n (by omega) (by omega), a_s_n (by omega) (by omega), in_n (by omega) (by omega), a_s_n (by omega) (by omega)]
      show alX8_keep_b141 nv md Q (alX8_keep_b22 nv md Q f) q_fuel (nI v) (nI i) (nI (40 * v + i)) (nI (240 + i)) (nI 0) (cp7 B (40 * v + i) (240 + i))
      refine m_keepK (A := cp7 B (40 * v + i) (240 + i)) hv (by omega) (fun E hE => ?_) q_fuel 0 _ (by omega) (by unfold q_fuel; omega) (fun q m => by rw [if_neg (by omega)])
      refine ih (i + 1) E (by omega) (by omega) (fun q m => ?_)
      rw [hE]
      by_cases a : 144 ≤ q ∧ q ≤ 150 ∧ 40 * v ≤ m ∧ m < 40 * v + (i + 1)
      · rw [if_neg (by omega), if_pos a, cp7_at]
        by_cases b : m = 40 * v + i
        · rw [if_pos (by omega), hB, if_neg (by omega), if_neg (by omega)]
          congr 1
          omega
        · rw [if_neg (by omega), hB, if_pos (by omega)]
      · rw [if_neg a]
        by_cases b : q = 151 ∧ 1280 * v ≤ m ∧ m < 1280 * v + 32 * (i + 1)
        · rw [if_pos b]
          by_cases c : 1280 * v + 32 * i ≤ m
          · rw [if_pos (by omega), cp7_at, if_neg (by omega), hB, if_neg (by omega), if_neg (by omega)]
            congr 1
            omega
          · rw [if_neg (by omega), cp7_at, if_neg (by omega), hB, if_neg (by omega), if_pos (by omega)]
        · rw [if_neg b, if_neg (by omega), cp7_at, if_neg (by omega), hB, if_neg (by omega), if_neg (by omega)]
theorem m_keep {Q : q_St → Prop} {v rc : Nat} (hv : v < 6) (hr : rc ≤ 40) (h6 : A 143 6 = nI rc) (hq : ∀ B : q_St, KB v rc (q_u (q_u A 142 v 1) 143 v (nI rc)) B → Q B) : aX8_keep nv md (nI v) Q A := by
  unfold aX8_keep
  rw [a_s_n (by omega) (by omega), show (6 : Int32) = nI 6 from rfl, in_n (by omega) (by omega), cl_nI (by omega), qn (by omega), h6, a_s_n (by omega) (by omega)]
  refine m_keepL hv hr ?_ hq q_fuel 0 _ (by omega) (by unfold q_fuel; omega) (fun q m => by rw [if_neg (by omega), if_neg (by omega)]; rfl)
  rw [qs (by omega), qn (by omega)]; exact h6
/-- what stays when the model keeps a PART -/
theorem kb_rel {B : q_St} {v j rc : Nat} (hv : v < 6) (hj : 64 ≤ j) (hj2 : j ≤ 94) (hr : rc ≤ 40) (h : ∀ i, i < rc → rRel A j 6 i) (h2 : A j 2 = nI rc) (hB : KB v rc (q_u (q_u A 142 v 1) 143 v (nI rc)) B) : pRel B j v ∧ B 142 v = 1 := by
  have o : ∀ q m, q ≠ 142 → q ≠ 143 → q_u (q_u A 142 v 1) 143 v (nI rc) q m = A q m := fun q m a b => by rw [qn b, qn a]
  have e1 : ∀ q i, 144 ≤ q → q ≤ 150 → i < rc → B q (40 * v + i) = A q (240 + i) := fun q i a b c => by
    rw [hB, if_pos (by omega), o _ _ (by omega) (by omega), show 40 * v + i - 40 * v = i by omega]
  have e2 : ∀ i k, i < rc → k < 32 → B 151 (32 * (40 * v + i) + k) = A 151 (32 * (240 + i) + k) := fun i k a b => by
    rw [hB, if_neg (by omega), if_pos (by omega), o _ _ (by omega) (by omega)]
    congr 1
    omega
  have e3 : ∀ q m, q < 142 → B q m = A q m := fun q m a => by
    rw [hB, if_neg (by omega), if_neg (by omega), o _ _ (by omega) (by omega)]
  refine ⟨⟨rc, hr, by rw [e3 _ _ (by omega)]; exact h2, ?_, fun i hi => ?_⟩, ?_⟩
  · rw [hB, if_neg (by omega), if_neg (by omega)]; exact qh
  · obtain ⟨a0, a1, a2, a3, a4, a5, a6, a7, a9, n, n1, n2, n3⟩ := h i hi
    refine ⟨?_, ?_, ?_, ?_, ?_, ?_, ?_, ?_, ?_, n, n1, ?_, fun k w hk hw => ?_⟩
    · rw [e3 _ _ (by omega), e1 _ _ (by omega) (by omega) hi]; exact a0
    · rw [e3 _ _ (by omega), e1 _ _ (by omega) (by omega) hi]; exact a1
    · rw [e3 _ _ (by omega), e1 _ _ (by omega) (by omega) hi]; exact a2
    · rw [e3 _ _ (by omega), e1 _ _ (by omega) (by omega) hi]; exact a3
    · rw [e3 _ _ (by omega), e1 _ _ (by omega) (by omega) hi]; exact a4
    · rw [e3 _ _ (by omega), e1 _ _ (by omega) (by omega) hi]; exact a5
    · rw [e3 _ _ (by omega), e1 _ _ (by omega) (by omega) hi]; exact a6
    · rw [e3 _ _ (by omega), e1 _ _ (by omega) (by omega) hi]; exact a7
    · rw [e1 _ _ (by omega) (by omega) hi]; exact a9
    · rw [e1 _ _ (by omega) (by omega) hi]; exact n2
    · rw [e3 _ _ (by omega), e2 _ _ hi (by omega)]; exact n3 k w hk hw
  · rw [hB, if_neg (by omega), if_neg (by omega), qn (by omega)]; exact qh
def mdv (md : Nat → Bool) (v : Nat) : Nat → Bool := fun u => if u = v then true else md u
/-- nothing but PART v and what is read no more has changed -/
def KP (v : Nat) (A B : q_St) : Prop := ∀ q m, scr q m = false → ¬ (64 + 5 * v ≤ q ∧ q ≤ 64 + 5 * v + 4) → ¬ (q = 142 ∧ m = v) → ¬ (q = 143 ∧ m = v) → ¬ (144 ≤ q ∧ q ≤ 150 ∧ 40 * v ≤ m ∧ m < 40 * v + 40) → ¬ (q = 151 ∧ 1280 * v ≤ m ∧ m < 1280 * v + 1280) → B q m = A q m
theorem Corr.part {B : q_St} {v : Nat} (C : Corr nv md nb A) (hv : v < 6) (K : KP v A B) (hp : pRel B (64 + 5 * v) v) (h142 : B 142 v = 1) : Corr nv (mdv md v) nb B := by
  obtain ⟨c1, c2, c3, c4, c5, c6, c7⟩ := C
  have hn := c1.1
  have ar : ∀ i, (∀ k, scr i k = false) → ¬ (64 + 5 * v ≤ i ∧ i ≤ 64 + 5 * v + 4) → i < 142 → B i = A i := fun i h a b => funext fun k => K i k (h k) a (by omega) (by omega) (by omega) (by omega)
  refine ⟨cSc_congr (ar _ (by intro k; simp [scr]) (by omega) (by omega)) (K _ _ (by simp [scr]) (by omega) (by omega) (by omega) (by omega) (by omega)) (K _ _ (by simp [scr]) (by omega) (by omega) (by omega) (by omega) (by omega)) (K _ _ (by simp [scr]) (by omega) (by omega) (by omega) (by omega) (by omega)) c1, cTb_congr hn (fun i a b c => ar i (by intro k; simp [scr]; omega) (by omega) (by omega)) (fun i a b => ar i (by intro k; simp [scr]; omega) (by omega) (by omega)) c2, cNt_congr (fun i a b => ar i (by intro k; simp [scr]; omega) (by omega) (by omega)) c3, cMk_congr (ar _ (by intro k; simp [scr]) (by omega) (by omega)) (ar _ (by intro k; simp [scr]) (by omega) (by omega)) (ar _ (by intro k; simp [scr]) (by omega) (by omega)) c4, cVc_congr hn (fun i a b c => ar i (by intro k; simp [scr]; omega) (by omega) (by omega)) (ar _ (by intro k; simp [scr]) (by omega) (by omega)) (ar _ (by intro k; simp [scr]) (by omega) (by omega)) c5, cPg_congr (ar _ (by intro k; simp [scr]) (by omega) (by omega)) (K _ _ (by simp [scr]) (by omega) (by omega) (by omega) (by omega) (by omega)) (K _ _ (by simp [scr]) (by omega) (by omega) (by omega) (by omega) (by omega)) c6, ?_⟩
  intro u hu
  by_cases e : u = v
  · subst e
    have hm : mdv md u u = true := if_pos rfl
    exact ⟨fun _ => ⟨h142, hp⟩, fun z => absurd z (by rw [hm]; simp)⟩
  · have hm : mdv md v u = md u := if_neg e
    rw [hm, K 142 u (by simp [scr]) (by omega) (by omega) (by omega) (by omega) (by omega)]
    refine ⟨fun z => ⟨((c7 u hu).1 z).1, pRel_congr (fun d hd => funext fun k => K _ _ (by simp [scr]; omega) (by omega) (by omega) (by omega) (by omega) (by omega)) (K _ _ (by simp [scr]; omega) (by omega) (by omega) (by omega) (by omega) (by omega)) (fun q i a b hi => K _ _ (by simp [scr]; omega) (by omega) (by omega) (by omega) (by omega) (by omega)) (fun i k w hi hk hw => K _ _ (by simp [scr]; omega) (by omega) (by omega) (by omega) (by omega) (by omega)) ((c7 u hu).1 z).2⟩, (c7 u hu).2⟩
theorem op_extract {v : Nat} {B : q_St} (C : Corr nv md nb A) (hv : v < nv) (hB : ∀ q m, ¬ (64 + 5 * v ≤ q ∧ q ≤ 64 + 5 * v + 4) → B q m = A q m) : aX0_make nv (mdv md v) (16 + 4 * v) (64 + 5 * v) (fun A1 => aX8_extract nv (mdv md v) (nI v) (fun r2 A2 => A1 (64 + 5 * v) 2 = r2 ∧ Corr nv (mdv md v) nb A2) A1) B := by
  have h6 := C.1.1
  have S0 := sv_of C
  have S : SV nv nb A B := S0.keep (fun q m hq => hB q m (by omega)) (fun q m h1 h2 => hB q m (by omega)) (fun m _ => hB _ m (by omega))
  refine c_make S hv (by omega) (by omega) (fun E rc hrc hP hE => ?_)
  have SE : SV nv nb A E := S.keep (fun q m hq => hE q m (by omega)) (fun q m h1 h2 => hE q m (by omega)) (fun m _ => hE _ m (by omega))
  unfold aX8_extract
  rw [a8_isVoice SE.1.2.2.1 h6, brB, if_pos (by rw [i_nI (by omega)]; omega)]
  refine m_make SE hv (fun G rc2 hrc2 hM hK => ?_)
  have er := rcS_un hrc2 hrc
  subst er
  have hr40 : rc2 ≤ 40 := Nat.le_trans (rcS_le hrc) S.1.2.1
  refine m_keep (by omega) hr40 hM.1 (fun F hF => ?_)
  have hP2 : PrC nb A v (64 + 5 * v) rc2 G := hP.congr (fun q m h1 h2 => hK q m (by omega) (by omega) (by omega))
  obtain ⟨rc4, l4, f1, f2, f3⟩ := pr_rel S0 hv hrc2 hP2 hM
  have e24 : rc2 = rc4 := by
    rw [hM.1] at f2
    exact (nI_eq (by omega) (by omega)).mp f2
  subst e24
  obtain ⟨hp, h142⟩ := kb_rel (by omega : v < 6) (by omega) (by omega) hr40 f3 f1 hF
  obtain ⟨rc5, l5, g1, g2, -⟩ := id hp
  rw [in_n (by omega) (by omega), cl_nI (by omega)]
  refine ⟨?_, C.part (by omega) (fun q m hs a b c d e => ?_) hp h142⟩
  · rw [hP.1, hF, if_neg (by omega), if_neg (by omega)]; exact qh.symm
  · have hs2 := hs
    simp [scr] at hs2
    rw [hF, if_neg (by omega), if_neg (by omega), qa, if_neg (by omega), qa, if_neg (by omega), hK q m (by omega) (by omega) (by omega), hE q m (by omega), hB q m (by omega)]
end CEXTR
