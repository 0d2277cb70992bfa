/-! a ROW as THE SCORE asks for it -/
def nS (D : q_St) (f : Nat) : Option Nat → Nat
  | none => 0
  | some u => cnt D u f
def wnS (D : q_St) (v f u k w : Nat) : Int32 := if w = 0 then ng D u f k 0 else if w = 1 then ng D u f k 1 else if w = 2 then ptS (ng D u f k 2) (D 139 v) (D 140 v) else spS (ng D u f k 3 + D 139 v + tnS (kyS D (f + 1)) (D 139 v))
def wnO (D : q_St) (v f : Nat) (o : Option Nat) (k w : Nat) : Int32 := match o with
  | none => 0
  | some u => wnS D v f u k w
def baS (s u : Nat) : Nat := if s = 0 then 1 + u else if s = 1 then 2 else if s = 2 then 1 + (u + 1) / 2 else 4
def wdS (D : q_St) (v s f : Nat) (o : Option Nat) : Nat := baS s (ulS (fun q => wnO D v f o q 0) (nS D f o)) + (if ndS D f = true then 1 else 0)
def kwS (D : q_St) (v f : Nat) : Int32 := kyS D (f + 1) + D 139 v + tnS (kyS D (f + 1)) (D 139 v)
def cfS (s : Nat) (o : Option Nat) : Int32 := if s = 2 then cuI o else -100
def RC (D : q_St) (v j i s f l : Nat) (o : Option Nat) (A : q_St) : Prop := A (j + 1) (i * 7) = nI s ∧ A (j + 1) (i * 7 + 1) = nI f ∧ A (j + 1) (i * 7 + 2) = nI l ∧ A (j + 1) (i * 7 + 3) = nI (wdS D v s f o) ∧ A (j + 1) (i * 7 + 4) = kwS D v f ∧ A (j + 1) (i * 7 + 5) = nI (nS D f o) ∧ A (j + 1) (i * 7 + 6) = cfS s o ∧ A (j + 3) i = nI (nS D f o) ∧ ∀ k w, k < nS D f o → w < 4 → A (j + 4) ((i * 8 + k) * 4 + w) = wnO D v f o k w
/-- nothing but ROW i of PART j has changed -/
def FR (j i : Nat) (A A' : q_St) : Prop := ∀ q m, ¬ (q = j ∧ m = 2) → ¬ (q = j + 1 ∧ i * 7 ≤ m ∧ m < i * 7 + 7) → ¬ (q = j + 3 ∧ m = i) → ¬ (q = j + 4 ∧ i * 32 ≤ m ∧ m < i * 32 + 32) → A' q m = A q m
theorem FR.tr {j i : Nat} {A B C : q_St} (h : FR j i A B) (g : FR j i B C) : FR j i A C := fun q m a b c d => (g q m a b c d).trans (h q m a b c d)
theorem FR.u {j i w : Nat} {A B : q_St} (h : FR j i A B) (hw : w < 7) (x : Int32) : FR j i A (q_u B (j + 1) (i * 7 + w) x) := fun q m a b c d => by
  rw [qa, if_neg (by omega)]; exact h q m a b c d
theorem FR.rc {D A B : q_St} {v j i r s f l : Nat} {o : Option Nat} (h : FR j i A B) (hr : r < i) (n8 : nS D f o ≤ 8) (R : RC D v j r s f l o A) : RC D v j r s f l o B := by
  obtain ⟨r0, r1, r2, r3, r4, r5, r6, r7, r8⟩ := R
  refine ⟨?_, ?_, ?_, ?_, ?_, ?_, ?_, ?_, fun k w hk hw => ?_⟩
  · rw [h _ _ (by omega) (by omega) (by omega) (by omega)]; exact r0
  · rw [h _ _ (by omega) (by omega) (by omega) (by omega)]; exact r1
  · rw [h _ _ (by omega) (by omega) (by omega) (by omega)]; exact r2
  · rw [h _ _ (by omega) (by omega) (by omega) (by omega)]; exact r3
  · rw [h _ _ (by omega) (by omega) (by omega) (by omega)]; exact r4
  · rw [h _ _ (by omega) (by omega) (by omega) (by omega)]; exact r5
  · rw [h _ _ (by omega) (by omega) (by omega) (by omega)]; exact r6
  · rw [h _ _ (by omega) (by omega) (by omega) (by omega)]; exact r7
  · rw [h _ _ (by omega) (by omega) (by omega) (by omega)]; exact r8 k w hk hw
theorem f8_in : ∀ n, n < 35 → 0 ≤ (f8 (7 * (nI n - 15))).toInt ∧ (f8 (7 * (nI n - 15))).toInt ≤ 11 := by decide +kernel
theorem f8_inx {x : Int32} (h1 : -15 ≤ x.toInt) (h2 : x.toInt ≤ 19) : 0 ≤ (f8 (7 * x)).toInt ∧ (f8 (7 * x)).toInt ≤ 11 := by
  have e : x = nI (x.toInt + 15).toNat - 15 := by
    rw [i_eq, i_sub, i_nI (by omega), show (15 : Int32).toInt = 15 from by decide]
    · omega
    · rw [i_nI (by omega), show (15 : Int32).toInt = 15 from by decide]; omega
    · rw [i_nI (by omega), show (15 : Int32).toInt = 15 from by decide]; omega
  rw [e]
  exact f8_in _ (by omega)
theorem pt_lt {p q f o : Int32} (hp : 0 ≤ p.toInt ∧ p.toInt ≤ 127) (hq : 0 ≤ q.toInt ∧ q.toInt ≤ 127) (hf : -6 ≤ f.toInt ∧ f.toInt ≤ 6) (ho : -2 ≤ o.toInt ∧ o.toInt ≤ 2) (h : p.toInt < q.toInt) : (ptS p f o).toInt < (ptS q f o).toInt := by
  have h8 := f8_inx (x := f) (by omega) (by omega)
  have c12 := L_12
  have em : ((12 : Int32) * o).toInt = 12 * o.toInt := by rw [i_mul, L_12] <;> (rw [L_12]; omega)
  unfold ptS
  split
  · have a1 : (p + f8 (7 * f)).toInt = p.toInt + (f8 (7 * f)).toInt := i_add (by omega) (by omega)
    have a2 : (q + f8 (7 * f)).toInt = q.toInt + (f8 (7 * f)).toInt := i_add (by omega) (by omega)
    have b1 : (p + f8 (7 * f) + 12 * o).toInt = (p + f8 (7 * f)).toInt + ((12 : Int32) * o).toInt := i_add (by omega) (by omega)
    have b2 : (q + f8 (7 * f) + 12 * o).toInt = (q + f8 (7 * f)).toInt + ((12 : Int32) * o).toInt := i_add (by omega) (by omega)
    omega
  · have a0 : (f8 (7 * f) - 12).toInt = (f8 (7 * f)).toInt - 12 := by rw [i_sub (by omega) (by omega), L_12]
    have a1 : (p + (f8 (7 * f) - 12)).toInt = p.toInt + ((f8 (7 * f)).toInt - 12) := by rw [i_add (by omega) (by omega), a0]
    have a2 : (q + (f8 (7 * f) - 12)).toInt = q.toInt + ((f8 (7 * f)).toInt - 12) := by rw [i_add (by omega) (by omega), a0]
    have b1 : (p + (f8 (7 * f) - 12) + 12 * o).toInt = (p + (f8 (7 * f) - 12)).toInt + ((12 : Int32) * o).toInt := i_add (by omega) (by omega)
    have b2 : (q + (f8 (7 * f) - 12) + 12 * o).toInt = (q + (f8 (7 * f) - 12)).toInt + ((12 : Int32) * o).toInt := i_add (by omega) (by omega)
    omega
theorem n_div2 : ∀ n, n < 20 → nI n / 2 = nI (n / 2) := by decide +kernel
section CROWC
variable {nv nb : Nat} {md : Nat → Bool} {D A A' : q_St}
theorem c_setF {j rc i w : Nat} {x : Int32} {Q : q_St → Prop} (h : A j 2 = nI rc) (hr : rc ≤ 40) (hi : i < rc) (hw : w < 7) : aX4_setFigure nv md j (nI i) (nI w) x Q A = Q (q_u A (j + 1) (i * 7 + w) x) := by
  unfold aX4_setFigure
  rw [a4_hasRow h (by omega), i_nI (by omega), brB', if_pos (by omega), i_lt, L_0, i_nI (by omega), brF (by omega), e7, le_n (by omega) (by omega), brF (by omega), n_am, a_s_n (by omega) (by omega)]
theorem c_addRow {j i : Nat} {s f l : Int32} {Q : Int32 → q_St → Prop} (h : A j 2 = nI i) (hi : i < 40) (hq : ∀ B : q_St, B j 2 = nI (i + 1) → B (j + 1) (i * 7) = s → B (j + 1) (i * 7 + 1) = f → B (j + 1) (i * 7 + 2) = l → B (j + 1) (i * 7 + 5) = nI 0 → B (j + 1) (i * 7 + 6) = -100 → (∀ q m, ¬ (q = j ∧ m = 2) → ¬ (q = j + 1 ∧ i * 7 ≤ m ∧ m < i * 7 + 7) → B q m = A q m) → Q (nI i) B) : aX4_addRow nv md j s f l Q A := by
  unfold aX4_addRow a_p
  rw [h, e40, lt_n (by omega) (by omega), brT hi, e1, nI_add]
  have h0 : (q_u A j 2 (nI (i + 1))) j 2 = nI (i + 1) := qh
  simp only []
  rw [show (0 : Int32) = nI 0 from rfl, c_setF h0 (by omega) (by omega) (by omega)]
  have h1 : ∀ m x, (q_u (q_u A j 2 (nI (i + 1))) (j + 1) m x) j 2 = nI (i + 1) := fun m x => by rw [qn (by omega)]; exact h0
  rw [c_setF (h1 _ _) (by omega) (by omega) (by omega)]
  have h2 : ∀ m x m2 x2, (q_u (q_u (q_u A j 2 (nI (i + 1))) (j + 1) m x) (j + 1) m2 x2) j 2 = nI (i + 1) := fun m x m2 x2 => by rw [qn (by omega)]; exact h1 m x
  rw [show (2 : Int32) = nI 2 from rfl, c_setF (h2 _ _ _ _) (by omega) (by omega) (by omega)]
  have h3 : ∀ m x m2 x2 m3 x3, (q_u (q_u (q_u (q_u A j 2 (nI (i + 1))) (j + 1) m x) (j + 1) m2 x2) (j + 1) m3 x3) j 2 = nI (i + 1) := fun m x m2 x2 m3 x3 => by rw [qn (by omega)]; exact h2 m x m2 x2
  rw [show (5 : Int32) = nI 5 from rfl, c_setF (h3 _ _ _ _ _ _) (by omega) (by omega) (by omega)]
  have h4 : ∀ m x m2 x2 m3 x3 m4 x4, (q_u (q_u (q_u (q_u (q_u A j 2 (nI (i + 1))) (j + 1) m x) (j + 1) m2 x2) (j + 1) m3 x3) (j + 1) m4 x4) j 2 = nI (i + 1) := fun m x m2 x2 m3 x3 m4 x4 => by rw [qn (by omega)]; exact h3 m x m2 x2 m3 x3
  rw [show (6 : Int32) = nI 6 from rfl, c_setF (h4 _ _ _ _ _ _ _ _) (by omega) (by omega) (by omega)]
  refine hq _ ?_ ?_ ?_ ?_ ?_ ?_ (fun q m a b => ?_)
  · rw [qn (by omega)]; exact h4 _ _ _ _ _ _ _ _
  · rw [qs (by omega), qs (by omega), qs (by omega), qs (by omega)]; exact qh
  · rw [qs (by omega), qs (by omega), qs (by omega)]; exact qh
  · rw [qs (by omega), qs (by omega)]; exact qh
  · rw [qs (by omega)]; exact qh
  · exact qh
  · simp only [qa]
    rw [if_neg (by omega), if_neg (by omega), if_neg (by omega), if_neg (by omega), if_neg (by omega), if_neg (by omega)]
theorem c_app {t b n : Nat} {s l p q : Int32} {Q : q_St → Prop} (hb : b < 40) (hs : A (t + 1) b = nI n) (hn : n < 8) (hl : 0 < n → ¬ (s < A (t + 2) ((b * 8 + (n - 1)) * 4) ∨ (A (t + 2) ((b * 8 + (n - 1)) * 4) = s ∧ p < A (t + 2) ((b * 8 + (n - 1)) * 4 + 2)))) (hq : ∀ B : q_St, (∀ j m, B j m = if j = t + 1 ∧ m = b then nI (n + 1) else if j = t + 2 ∧ (b * 8 + n) * 4 ≤ m ∧ m < (b * 8 + n) * 4 + 4 then nw4 s l p q (m - (b * 8 + n) * 4) else A j m) → Q B) : aX3_insert nv md t (nI b) s l p q Q A := by
  unfold aX3_insert
  rw [a3_size_n _ hb, hs, i_lt, L_0, i_nI (by omega), brF (by omega), e40, le_n (by omega) (by omega), brF (by omega), e8, lt_n (by omega) (by omega), brT hn]
  have hfin : aX3_insert_b81 nv md Q t (nI b) s l p q (nI n) (nI n) A := by
    refine a3_ins81 (A := A) hb hn (Nat.le_refl n) s l p q (fun j m => ?_) (fun B hB => hq B (fun j m => ?_))
    · unfold shf
      rw [if_neg (by omega)]
    · rw [hB]
      unfold insA shf
      rw [if_neg (c := j = t + 2 ∧ (b * 8 + n + 1) * 4 ≤ m ∧ m < (b * 8 + n + 1) * 4) (by omega)]
  show aX3_insert_b29 nv md Q (alX3_insert_b29 nv md Q _) t (nI b) s l p q (nI n) (nI n) A
  unfold aX3_insert_b29
  rw [lz_n (by omega)]
  by_cases z : n = 0
  · rw [brT z]; exact hfin
  · have ek : nI n - 1 = nI (n - 1) := by
      have := nI_pred (n - 1)
      rw [show n - 1 + 1 = n by omega] at this
      exact this
    rw [brF z, ek, a3_behind hb hs (by omega) (by omega), decide_eq_false (hl (by omega)), brT (show bI false = 0 from rfl)]
    exact hfin
/-- what stands while NOTES are written -/
def WI (j i k : Nat) (D : q_St) (v f u : Nat) (A0 A : q_St) : Prop := A (j + 2 + 1) i = nI k ∧ (∀ r w, r < k → w < 4 → A (j + 2 + 2) ((i * 8 + r) * 4 + w) = wnS D v f u r w) ∧ ∀ q m, ¬ (q = j + 3 ∧ m = i) → ¬ (q = j + 4 ∧ i * 32 ≤ m ∧ m < i * 32 + 32) → A q m = A0 q m
theorem sv_part (S : SV nv nb D A) (h : ∀ q m, q < 64 ∨ 99 ≤ q → A' q m = A q m) : SV nv nb D A' := S.keep (fun q m hq => h q m (by omega)) (fun q m h1 h2 => h q m (by omega)) (fun m _ => h _ m (by omega))
theorem c_wrL {A0 : q_St} {Q : q_St → Prop} {v u j i f n rc : Nat} (S0 : SV nv nb D A0) (hv : v < nv) (hu : u < nv) (hf : f < 40) (hn : n = cnt D u f) (hj : 64 ≤ j) (hj2 : j ≤ 94) (hrc : A0 j 2 = nI rc) (hr : rc ≤ 40) (hi : i < rc) (hq : ∀ A : q_St, WI j i n D v f u A0 A → Q (q_u A (j + 1) (i * 7 + 5) (nI n))) : ∀ (F k : Nat) (A : q_St), k ≤ n → n < F + k → WI j i k D v f u A0 A → alX0_writeNotes_b34 nv md Q F (16 + 4 * v) (16 + 4 * u) j (nI i) (nI f) (kyS D (f + 1)) (nI n) (nI k) A := by
  have h6 := S0.1.1
  have h8 := (S0.2.2.2.2.1 u f (by omega) hf).1
  intro F
  induction F with
  | zero => intro k A h1 h2; exact absurd h2 (by omega)
  | succ F ih =>
    intro k A h1 h2 hW
    obtain ⟨w1, w2, w3⟩ := id hW
    have S : SV nv nb D A := sv_part S0 (fun q m hq => w3 q m (by omega) (by omega))
    have hrc2 : A j 2 = nI rc := by rw [w3 _ _ (by omega) (by omega)]; exact hrc
    show aX0_writeNotes_b34 nv md Q (alX0_writeNotes_b34 nv md Q F) (16 + 4 * v) (16 + 4 * u) j (nI i) (nI f) (kyS D (f + 1)) (nI n) (nI k) A
    unfold aX0_writeNotes_b34
    rw [le_n (by omega) (by omega)]
    by_cases h : n ≤ k
    · rw [brT h, show (5 : Int32) = nI 5 from rfl, c_setF hrc2 hr hi (by omega)]
      have ek : k = n := by omega
      subst ek
      exact hq A hW
    · have T := svT S hu hf
      have hkc : k < cnt D u f := by omega
      have hnt := S.2.2.2.2.2.2.1 u f k (by omega) hf hkc
      obtain ⟨o1, o2, o3, o4, o5, o6, o7, o8⟩ := hnt.1
      have tb := tn_sum S (by omega : v < 6) hf (s := ng D u f k 3) o7 o8
      rw [brF h, a3_figT0 T hkc, a3_figT1 T hkc, a3_figT2 T hkc, c_pitch S hv, a3_figT3 T hkc, c_spell S hv tb.1 tb.2]
      refine c_app (by omega) w1 (by omega) (fun h0 => ?_) (fun B hB => ?_)
      · have x0 := w2 (k - 1) 0 (by omega) (by omega)
        have x2 := w2 (k - 1) 2 (by omega) (by omega)
        rw [show (i * 8 + (k - 1)) * 4 + 0 = (i * 8 + (k - 1)) * 4 from rfl] at x0
        rw [x0, x2]
        show ¬ (ng D u f k 0 < ng D u f (k - 1) 0 ∨ (ng D u f (k - 1) 0 = ng D u f k 0 ∧ ptS (ng D u f k 2) (D 139 v) (D 140 v) < ptS (ng D u f (k - 1) 2) (D 139 v) (D 140 v)))
        have hb := S.2.2.2.2.2.2.2.2.2 v (by omega)
        have hnt2 := S.2.2.2.2.2.2.1 u f (k - 1) (by omega) hf (by omega)
        obtain ⟨p1, p2, p3, p4, p5, p6, p7, p8⟩ := hnt2.1
        have hlx := hnt2.2 (by omega)
        rw [show k - 1 + 1 = k by omega] at hlx
        have hlx2 : (ng D u f (k - 1) 0).toInt < (ng D u f k 0).toInt ∨ ((ng D u f (k - 1) 0).toInt = (ng D u f k 0).toInt ∧ (ng D u f (k - 1) 2).toInt < (ng D u f k 2).toInt) := hlx
        have hp5 : 0 ≤ (ng D u f (k - 1) 2).toInt ∧ (ng D u f (k - 1) 2).toInt ≤ 127 := ⟨p5, p6⟩
        have ho5 : 0 ≤ (ng D u f k 2).toInt ∧ (ng D u f k 2).toInt ≤ 127 := ⟨o5, o6⟩
        rw [i_lt, i_eq, i_lt]
        rcases hlx2 with g | ⟨g1, g2⟩
        · omega
        · have := pt_lt (p := ng D u f (k - 1) 2) (q := ng D u f k 2) (f := D 139 v) (o := D 140 v) hp5 ho5 ⟨hb.1, hb.2.1⟩ ⟨hb.2.2.1, hb.2.2.2⟩ g2
          omega
      · rw [e1, nI_add]
        refine ih (k + 1) B (by omega) (by omega) ⟨?_, fun r w hr2 hw => ?_, fun q m c1 c2 => ?_⟩
        · rw [hB, if_pos ⟨rfl, rfl⟩]
        · rw [hB, if_neg (by omega)]
          by_cases z : r = k
          · subst z
            rw [if_pos ⟨rfl, by omega, by omega⟩, show (i * 8 + r) * 4 + w - (i * 8 + r) * 4 = w by omega]
            rfl
          · rw [if_neg (by omega)]
            exact w2 r w (by omega) hw
        · rw [hB, if_neg (by omega), if_neg (by omega)]
          exact w3 q m c1 c2
theorem c_write {Q : q_St → Prop} {v u j i f rc : Nat} (S : SV nv nb D A) (hv : v < nv) (hu : u < nv) (hf : f < 40) (hj : 64 ≤ j) (hj2 : j ≤ 94) (hrc : A j 2 = nI rc) (hr : rc ≤ 40) (hi : i < rc) (h1 : A (j + 1) (i * 7 + 1) = nI f) (h0 : A (j + 3) i = nI 0) (hq : ∀ B : q_St, WI j i (cnt D u f) D v f u A B → Q (q_u B (j + 1) (i * 7 + 5) (nI (cnt D u f)))) : aX0_writeNotes nv md (16 + 4 * v) (16 + 4 * u) j (nI i) Q A := by
  have h6 := S.1.1
  have h8 := (S.2.2.2.2.1 u f (by omega) hf).1
  unfold aX0_writeNotes
  rw [show (1 : Int32) = nI 1 from rfl, a4_fig hrc hr hi (by omega), h1, c_key S hf, a3_sizeT (svT S hu hf)]
  exact c_wrL S hv hu hf rfl hj hj2 hrc hr hi hq _ 0 A (by omega) (by unfold q_fuel; omega) ⟨h0, fun r w hr2 => absurd hr2 (Nat.not_lt_zero r), fun _ _ _ _ => rfl⟩
theorem c_bare {Q : Int32 → q_St → Prop} {j i rc s n : Nat} {g : Nat → Nat → Int32} (hrc : A j 2 = nI rc) (hr : rc ≤ 40) (hi : i < rc) (h0 : A (j + 1) (i * 7) = nI s) (hs : s ≤ 3) (T : TabS A (j + 2) i n g) : aX0_bareWidth nv md j (nI i) Q A = Q (nI (baS s (ulS (fun q => g q 0) n))) A := by
  have h8 := T.2.2.1
  have hu := ulS_le (fun q => g q 0) n
  unfold aX0_bareWidth
  rw [c_ul T, show (0 : Int32) = nI 0 from rfl, a4_fig hrc hr hi (by omega), show A (j + 1) (i * 7 + 0) = nI s from h0, i_nI (by omega), e1, nI_add, nI_add, n_div2 _ (by omega), nI_add]
  unfold baS
  have hsc : s = 0 ∨ s = 1 ∨ s = 2 ∨ s = 3 := by omega
  rcases hsc with e | e | e | e
  · subst e
    rw [if_pos rfl]
    exact propext ⟨fun h => h.2.1 rfl, fun h => ⟨fun q => absurd q (by omega), fun _ => h, fun q => absurd q (by omega), fun q => absurd q (by omega)⟩⟩
  · subst e
    rw [if_neg (by omega), if_pos rfl]
    exact propext ⟨fun h => h.2.2.1 rfl, fun h => ⟨fun q => absurd q (by omega), fun q => absurd q (by omega), fun _ => h, fun q => absurd q (by omega)⟩⟩
  · subst e
    rw [if_neg (by omega), if_neg (by omega), if_pos rfl]
    exact propext ⟨fun h => h.2.2.2 rfl, fun h => ⟨fun q => absurd q (by omega), fun q => absurd q (by omega), fun q => absurd q (by omega), fun _ => h⟩⟩
  · subst e
    rw [if_neg (by omega), if_neg (by omega), if_neg (by omega)]
    exact propext ⟨fun h => h.1 (Or.inr (by omega)), fun h => ⟨fun _ => h, fun q => absurd q (by omega), fun q => absurd q (by omega), fun q => absurd q (by omega)⟩⟩
theorem c_finish {Q : q_St → Prop} {v j i rc s f n : Nat} {g : Nat → Nat → Int32} (S : SV nv nb D A) (hv : v < nv) (hj : 64 ≤ j) (hj2 : j ≤ 94) (hf : f < 40) (hrc : A j 2 = nI rc) (hr : rc ≤ 40) (hi : i < rc) (h0 : A (j + 1) (i * 7) = nI s) (hs : s ≤ 3) (h1 : A (j + 1) (i * 7 + 1) = nI f) (T : TabS A (j + 2) i n g) (hq : Q (q_u (q_u A (j + 1) (i * 7 + 3) (nI (baS s (ulS (fun q => g q 0) n) + (if ndS D f = true then 1 else 0)))) (j + 1) (i * 7 + 4) (kwS D v f))) : aX0_finishRow nv md (16 + 4 * v) j (nI i) Q A := by
  have hb25 : ∀ y : Nat, y = (if ndS D f = true then 1 else 0) → aX0_finishRow_b25 nv md Q (16 + 4 * v) j (nI i) (nI f) (nI y) A := by
    intro y hy
    unfold aX0_finishRow_b25
    rw [c_bare hrc hr hi h0 hs T, show (3 : Int32) = nI 3 from rfl, c_setF hrc hr hi (by omega), nI_add, hy]
    have S2 : SV nv nb D (q_u A (j + 1) (i * 7 + 3) (nI (baS s (ulS (fun q => g q 0) n) + (if ndS D f = true then 1 else 0)))) := sv_part S (fun q m h => by rw [qn (by omega)])
    rw [c_key S2 hf, c_keyFor S2 hv, e4, c_setF (rc := rc) (by rw [qn (by omega)]; exact hrc) hr hi (by omega)]
    exact hq
  unfold aX0_finishRow
  rw [show (1 : Int32) = nI 1 from rfl, a4_fig hrc hr hi (by omega), h1, c_need S hf, brD']
  by_cases z : ndS D f = true
  · rw [if_pos z]; exact hb25 1 (by rw [if_pos z])
  · rw [if_neg z]; exact hb25 0 (by rw [if_neg z])
end CROWC
