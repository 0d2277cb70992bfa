theorem wn0 (D : q_St) (v f u k : Nat) : wnS D v f u k 0 = D 133 (8 * (40 * u + f) + k) := by unfold wnS; rw [if_pos rfl]; rfl
theorem wn1 (D : q_St) (v f u k : Nat) : wnS D v f u k 1 = D 134 (8 * (40 * u + f) + k) := by unfold wnS; rw [if_neg (by omega), if_pos rfl]; rfl
theorem wn2 (D : q_St) (v f u k : Nat) : wnS D v f u k 2 = ptS (D 135 (8 * (40 * u + f) + k)) (D 139 v) (D 140 v) := by unfold wnS; rw [if_neg (by omega), if_neg (by omega), if_pos rfl, show ng D u f k 2 = D 135 (8 * (40 * u + f) + k) from rfl]
theorem wn3 (D : q_St) (v f u k : Nat) : wnS D v f u k 3 = spS (D 136 (8 * (40 * u + f) + k) + D 139 v + tnS (kyS D (f + 1)) (D 139 v)) := by unfold wnS; rw [if_neg (by omega), if_neg (by omega), if_neg (by omega), show ng D u f k 3 = D 136 (8 * (40 * u + f) + k) from rfl]
def RM (D : q_St) (v i s f l : Nat) (o : Option Nat) (A : q_St) : Prop := A 144 (240 + i) = nI s ∧ A 145 (240 + i) = nI f ∧ A 146 (240 + i) = nI l ∧ A 147 (240 + i) = nI (wdS D v s f o) ∧ A 148 (240 + i) = kwS D v f ∧ A 149 (240 + i) = cfS s o ∧ A 150 (240 + i) = nI (nS D f o) ∧ ∀ k w, k < nS D f o → w < 4 → A 151 (32 * (240 + i) + (4 * k + w)) = wnO D v f o k w
/-- nothing but ROW i of the model's slot 6 has changed -/
def FM (i : Nat) (A A' : q_St) : Prop := ∀ q m, ¬ (q = 143 ∧ m = 6) → ¬ (144 ≤ q ∧ q ≤ 150 ∧ m = 240 + i) → ¬ (q = 151 ∧ 32 * (240 + i) ≤ m ∧ m < 32 * (240 + i) + 32) → A' q m = A q m
def RMp (D : q_St) (v i s f l : Nat) (o : Option Nat) (A : q_St) : Prop := A 143 6 = nI (i + 1) ∧ A 144 (240 + i) = nI s ∧ A 145 (240 + i) = nI f ∧ A 146 (240 + i) = nI l ∧ A 148 (240 + i) = kwS D v f ∧ A 149 (240 + i) = cfS s o
theorem FM.u {i q0 : Nat} {A B : q_St} (h : FM i A B) (h1 : 144 ≤ q0) (h2 : q0 ≤ 150) (x : Int32) : FM i A (q_u B q0 (240 + i) x) := fun q m a b c => by
  rw [qa, if_neg (by omega)]; exact h q m a b c
theorem FM.rm {D A B : q_St} {v i r s f l : Nat} {o : Option Nat} (h : FM i A B) (hr : r < i) (n8 : nS D f o ≤ 8) (R : RM D v r s f l o A) : RM D v r s f l o B := by
  obtain ⟨r0, r1, r2, r3, r4, r5, r6, r8⟩ := R
  refine ⟨?_, ?_, ?_, ?_, ?_, ?_, ?_, fun k w hk hw => ?_⟩
  · rw [h _ _ (by omega) (by omega) (by omega)]; exact r0
  · rw [h _ _ (by omega) (by omega) (by omega)]; exact r1
  · rw [h _ _ (by omega) (by omega) (by omega)]; exact r2
  · rw [h _ _ (by omega) (by omega) (by omega)]; exact r3
  · rw [h _ _ (by omega) (by omega) (by omega)]; exact r4
  · rw [h _ _ (by omega) (by omega) (by omega)]; exact r5
  · rw [h _ _ (by omega) (by omega) (by omega)]; exact r6
  · rw [h _ _ (by omega) (by omega) (by omega)]; exact r8 k w hk hw
section CMAKM
variable {nv nb : Nat} {md : Nat → Bool} {D A A' : q_St}
theorem sv_slot (S : SV nv nb D A) (h : ∀ q m, q < 141 → A' q m = A q m) : SV nv nb D A' := S.keep (fun q m hq => h q m (by omega)) (fun q m h1 h2 => h q m (by omega)) (fun m _ => h _ m (by omega))
theorem m_302 {Q : q_St → Prop} {K : Int32 → Int32 → Int32 → Int32 → Int32 → q_St → Prop} {v f x k n t : Nat} {x5 p y3 : Int32} (S : SV nv nb D A) (hv : v < nv) (hf : f < 40) (hn : n < 1920) (ht : t + 3 < 8960) (o7 : -15 ≤ (D 136 n).toInt) (o8 : (D 136 n).toInt ≤ 19) (hq : K (nI v) (nI f) x5 (nI x) (nI (k + 1)) (q_u (q_u A 151 (t + 2) (p + y3 + 12 * D 140 v)) 151 (t + 3) (spS (D 136 n + D 139 v + tnS (kyS D (f + 1)) (D 139 v))))) : aX8_addRow_b302 nv md Q K (nI v) (nI f) x5 (nI x) (nI k) (nI n) (nI t) (nI (t + 2)) p y3 A := by
  have h6 := S.1.1
  unfold aX8_addRow_b302
  rw [in_n (by omega) (by omega), cl_nI (by omega), S.2.1 140 (by omega) (by omega), a_s_n (by omega) (by omega), in_n (by omega) (by omega), in_n (by omega) (by omega), cl_nI (by omega)]
  have S2 : SV nv nb D (q_u A 151 (t + 2) (p + y3 + 12 * D 140 v)) := sv_slot S (fun q m h => qn (by omega))
  rw [m_turn S2 (by omega) hf, S2.2.1 136 (by omega) (by omega), S2.2.1 139 (by omega) (by omega)]
  have tb := tn_sum S2 (by omega : v < 6) hf (s := D 136 n) o7 o8
  have e := dn_loop (L := fun F x12 => alX8_addRow_b337 nv md Q K F (nI v) (nI f) x5 (nI x) (nI k) (nI t) x12 (q_u A 151 (t + 2) (p + y3 + 12 * D 140 v))) (K := fun x12 => alX8_addRow_b350 nv md Q K q_fuel (nI v) (nI f) x5 (nI x) (nI k) (nI t) x12 (q_u A 151 (t + 2) (p + y3 + 12 * D 140 v))) (fun F x12 => rfl) (by omega) tb.2 (q_fuel - 3)
  have d := dn_in tb.1 tb.2
  have e2 := up_loop (L := fun F x12 => alX8_addRow_b350 nv md Q K F (nI v) (nI f) x5 (nI x) (nI k) (nI t) x12 (q_u A 151 (t + 2) (p + y3 + 12 * D 140 v))) (K := fun x12 => a_s 151 8960 (nI t + (3 : Int32)) x12 (q_u A 151 (t + 2) (p + y3 + 12 * D 140 v)) (fun A_2 => K (nI v) (nI f) x5 (nI x) (nI k + (1 : Int32)) A_2)) (fun F x12 => rfl) d.1 d.2 (q_fuel - 3)
  refine (e.trans e2).mpr ?_
  show a_s 151 8960 (nI t + nI 3) _ _ (fun A_2 => K (nI v) (nI f) x5 (nI x) (nI k + nI 1) A_2)
  rw [nI_add, a_s_n (by omega) (by omega), nI_add]
  exact hq
/-- what stands while the model writes NOTES -/
def WM (i k n : Nat) (D : q_St) (v f u : Nat) (A0 A : q_St) : Prop := A 150 (240 + i) = nI n ∧ (∀ r w, r < k → w < 4 → A 151 (32 * (240 + i) + (4 * r + w)) = wnS D v f u r w) ∧ ∀ q m, ¬ (q = 151 ∧ 32 * (240 + i) ≤ m ∧ m < 32 * (240 + i) + 32) → A q m = A0 q m
theorem m_wrL {A0 : q_St} {Q : q_St → Prop} {v u i f n : Nat} (S0 : SV nv nb D A0) (hv : v < nv) (hu : u < nv) (hf : f < 40) (hi : i < 40) (hn : n = cnt D u f) (hq : ∀ A : q_St, WM i n n D v f u A0 A → Q A) : ∀ (F k : Nat) (A : q_St), k ≤ n → n < F + k → WM i k n D v f u A0 A → alX8_addRow_b185 nv md Q F (nI v) (nI f) (nI u) (nI (240 + i)) (nI k) A := by
  have h6 := S0.1.1
  have h8 := (S0.2.2.2.2.1 u f (by omega) hf).1
  intro F
  induction F with
  | zero => intro k A h1 h2; exact absurd h2 (by omega)
  | succ F ih =>
    intro k A h1 h2 hW
    obtain ⟨w1, w2, w3⟩ := id hW
    have S : SV nv nb D A := sv_slot S0 (fun q m hq => w3 q m (by omega))
    show aX8_addRow_b185 nv md Q (alX8_addRow_b185 nv md Q F) (nI v) (nI f) (nI u) (nI (240 + i)) (nI k) A
    unfold aX8_addRow_b185
    rw [in_n (by omega) (by omega), cl_nI (by omega), w1, le_n (by omega) (by omega)]
    by_cases h : n ≤ k
    · rw [brT h]
      have ek : k = n := by omega
      subst ek
      exact hq A hW
    · have hkc : k < cnt D u f := by omega
      have hnt := S.2.2.2.2.2.2.1 u f k (by omega) hf hkc
      obtain ⟨o1, o2, o3, o4, o5, o6, o7, o8⟩ := hnt.1
      have et : (32 : Int32) * nI (240 + i) + 4 * nI k = nI (32 * (240 + i) + 4 * k) := by rw [e32, e4, pk_mul, pk_mul, nI_add]
      have en : (8 : Int32) * (40 * nI u + nI f) + nI k = nI (8 * (40 * u + f) + k) := by rw [e8, e40, n_ma, n_ma]
      rw [brF h, in_n (by omega) (by omega), cl_nI (by omega), a8_fm, et, en, in_n (by omega) (by omega), cl_nI (by omega), S.2.1 139 (by omega) (by omega), S.2.1 133 (by omega) (by omega), a_s_n (by omega) (by omega), in_n (by omega) (by omega), e1, nI_add, qn (by omega), S.2.1 134 (by omega) (by omega), a_s_n (by omega) (by omega), in_n (by omega) (by omega), qn (by omega), qn (by omega), S.2.1 135 (by omega) (by omega), show (2 : Int32) = nI 2 from rfl, nI_add]
      have S2 : ∀ a b c d, SV nv nb D (q_u (q_u A 151 a b) 151 c d) := fun a b c d => sv_slot S (fun q m h => by rw [qn (by omega), qn (by omega)])
      have hstep : ∀ y3 : Int32, ptS (D 135 (8 * (40 * u + f) + k)) (D 139 v) (D 140 v) = D 135 (8 * (40 * u + f) + k) + y3 + 12 * D 140 v → aX8_addRow_b302 nv md Q (alX8_addRow_b185 nv md Q F) (nI v) (nI f) (nI u) (nI (240 + i)) (nI k) (nI (8 * (40 * u + f) + k)) (nI (32 * (240 + i) + 4 * k)) (nI (32 * (240 + i) + 4 * k + 2)) (D 135 (8 * (40 * u + f) + k)) y3 (q_u (q_u A 151 (32 * (240 + i) + 4 * k) (D 133 (8 * (40 * u + f) + k))) 151 (32 * (240 + i) + 4 * k + 1) (D 134 (8 * (40 * u + f) + k))) := by
        intro y3 hy
        refine m_302 (S2 _ _ _ _) hv hf (by omega) (by omega) o7 o8 ?_
        rw [← hy]
        refine ih (k + 1) _ (by omega) (by omega) ⟨?_, fun r w hr2 hw => ?_, fun q m c1 => ?_⟩
        · rw [qn (by omega), qn (by omega), qn (by omega), qn (by omega)]; exact w1
        · simp only [qa]
          by_cases z : r = k
          · subst z
            have hw4 : w = 0 ∨ w = 1 ∨ w = 2 ∨ w = 3 := by omega
            rcases hw4 with e | e | e | e
            · subst e
              rw [if_neg (by omega), if_neg (by omega), if_neg (by omega), if_pos ⟨trivial, by omega⟩, wn0]
            · subst e
              rw [if_neg (by omega), if_neg (by omega), if_pos ⟨trivial, by omega⟩, wn1]
            · subst e
              rw [if_neg (by omega), if_pos ⟨trivial, by omega⟩, wn2]
            · subst e
              rw [if_pos ⟨trivial, by omega⟩, wn3]
          · rw [if_neg (by omega), if_neg (by omega), if_neg (by omega), if_neg (by omega)]
            exact w2 r w (by omega) hw
        · simp only [qa]
          rw [if_neg (by omega), if_neg (by omega), if_neg (by omega), if_neg (by omega)]
          exact w3 q m c1
      refine ⟨fun y => ?_, fun y => ?_⟩
      · exact hstep _ (by unfold ptS; rw [if_pos y])
      · exact hstep _ (by unfold ptS; rw [if_neg y])
theorem m_181 {X : q_St} {Q : q_St → Prop} {v i s f l : Nat} {o : Option Nat} (S : SV nv nb D X) (hv : v < nv) (hf : f < 40) (hi : i < 40) (ho : ∀ u, o = some u → u < nv) (P : RMp D v i s f l o X) (h147 : X 147 (240 + i) = nI (wdS D v s f o)) (F : FM i A X) (hq : ∀ B : q_St, B 143 6 = nI (i + 1) → RM D v i s f l o B → FM i A B → Q B) : aX8_addRow_b181 nv md Q (nI v) (nI f) (cuI o) (nI (240 + i)) (nI (240 + i)) (nI (nS D f o)) X := by
  obtain ⟨p1, p2, p3, p4, p5, p6⟩ := P
  have h6 := S.1.1
  unfold aX8_addRow_b181
  rw [a_s_n (by omega) (by omega)]
  have S2 : SV nv nb D (q_u X 150 (240 + i) (nI (nS D f o))) := sv_slot S (fun q m h => qn (by omega))
  have F2 := F.u (i := i) (q0 := 150) (by omega) (by omega) (nI (nS D f o))
  cases o with
  | none =>
    show aX8_addRow_b185 nv md Q (alX8_addRow_b185 nv md Q _) (nI v) (nI f) (cuI none) (nI (240 + i)) (nI 0) _
    unfold aX8_addRow_b185
    rw [in_n (by omega) (by omega), cl_nI (by omega), qh, brT (show nI (nS D f none) ≤ nI 0 by show nI 0 ≤ nI 0; decide)]
    exact hq _ (by rw [qn (by omega)]; exact p1) ⟨by rw [qn (by omega)]; exact p2, by rw [qn (by omega)]; exact p3, by rw [qn (by omega)]; exact p4, by rw [qn (by omega)]; exact h147, by rw [qn (by omega)]; exact p5, by rw [qn (by omega)]; exact p6, qh, fun k w hk => absurd hk (Nat.not_lt_zero k)⟩ F2
  | some u =>
    have hu := ho u rfl
    have h8 := (S.2.2.2.2.1 u f (by omega) hf).1
    refine m_wrL S2 hv hu hf hi rfl (fun E hE => ?_) _ 0 _ (by omega) (by show cnt D u f < q_fuel + 0; unfold q_fuel; omega) ⟨qh, fun r w hr => absurd hr (Nat.not_lt_zero r), fun _ _ _ => rfl⟩
    obtain ⟨w1, w2, w3⟩ := hE
    refine hq E ?_ ⟨?_, ?_, ?_, ?_, ?_, ?_, w1, w2⟩ (fun q m a b c => (w3 q m c).trans (F2 q m a b c))
    · rw [w3 _ _ (by omega), qn (by omega)]; exact p1
    · rw [w3 _ _ (by omega), qn (by omega)]; exact p2
    · rw [w3 _ _ (by omega), qn (by omega)]; exact p3
    · rw [w3 _ _ (by omega), qn (by omega)]; exact p4
    · rw [w3 _ _ (by omega), qn (by omega)]; exact h147
    · rw [w3 _ _ (by omega), qn (by omega)]; exact p5
    · rw [w3 _ _ (by omega), qn (by omega)]; exact p6
theorem m_127 {X : q_St} {Q : q_St → Prop} {v i s f l ba : Nat} {o : Option Nat} (S : SV nv nb D X) (hv : v < nv) (hf : f < 40) (hi : i < 40) (ho : ∀ u, o = some u → u < nv) (P : RMp D v i s f l o X) (hba : ba + (if ndS D f = true then 1 else 0) = wdS D v s f o) (F : FM i A X) (hq : ∀ B : q_St, B 143 6 = nI (i + 1) → RM D v i s f l o B → FM i A B → Q B) : aX8_addRow_b127 nv md Q (nI v) (nI f) (cuI o) (nI (240 + i)) (nI ba) X := by
  have h6 := S.1.1
  obtain ⟨p1, p2, p3, p4, p5, p6⟩ := P
  have hst : ∀ y : Nat, ba + y = wdS D v s f o → aX8_addRow_b150 nv md Q (nI v) (nI f) (cuI o) (nI (240 + i)) (nI (240 + i)) (nI ba) (nI y) X := by
    intro y hy
    unfold aX8_addRow_b150
    rw [a_s_n (by omega) (by omega), nI_add, hy]
    have S2 : SV nv nb D (q_u X 147 (240 + i) (nI (wdS D v s f o))) := sv_slot S (fun q m h => qn (by omega))
    have go := m_181 (md := md) (A := A) (l := l) S2 hv hf hi ho ⟨by rw [qn (by omega)]; exact p1, by rw [qn (by omega)]; exact p2, by rw [qn (by omega)]; exact p3, by rw [qn (by omega)]; exact p4, by rw [qn (by omega)]; exact p5, by rw [qn (by omega)]; exact p6⟩ qh (F.u (i := i) (q0 := 147) (by omega) (by omega) _) hq
    cases o with
    | none =>
      refine ⟨fun z => absurd rfl z, fun _ => go⟩
    | some u =>
      have hu := ho u rfl
      refine ⟨fun _ => ?_, fun z => absurd z (n100 (by omega))⟩
      show vp_in (40 * nI u + nI f) 240 ∧ aX8_addRow_b181 nv md Q (nI v) (nI f) (cuI (some u)) (nI (240 + i)) (nI (240 + i)) (q_u X 147 (240 + i) (nI (wdS D v s f (some u))) 132 (40 * nI u + nI f).toNatClampNeg) _
      rw [e40, n_ma, in_n (by omega) (by omega), cl_nI (by omega), S2.2.1 132 (by omega) (by omega), (S.2.2.2.2.1 u f (by omega) hf).2]
      exact go
  unfold aX8_addRow_b127
  rw [m_need S hf, brD']
  by_cases z : ndS D f = true
  · rw [if_pos z]; rw [if_pos z] at hba; exact hst 1 hba
  · rw [if_neg z]; rw [if_neg z] at hba; exact hst 0 hba
theorem m_67 {X : q_St} {Q : q_St → Prop} {v i s f l : Nat} {o : Option Nat} (S : SV nv nb D X) (hv : v < nv) (hf : f < 40) (hi : i < 40) (hs : s ≤ 3) (ho : ∀ u, o = some u → u < nv) (c0 : s = 0 → o = some v) (c2 : s = 2 → ¬ o = none) (x3 : X 143 6 = nI (i + 1)) (x4 : X 144 (240 + i) = nI s) (x5 : X 145 (240 + i) = nI f) (x6 : X 146 (240 + i) = nI l) (F : FM i A X) (hq : ∀ B : q_St, B 143 6 = nI (i + 1) → RM D v i s f l o B → FM i A B → Q B) : aX8_addRow_b67 nv md Q (nI v) (nI s) (nI f) (cuI o) (nI (240 + i)) (nI (240 + i)) (cfS s o) X := by
  have h6 := S.1.1
  unfold aX8_addRow_b67
  rw [a_s_n (by omega) (by omega)]
  have S1 : SV nv nb D (q_u X 149 (240 + i) (cfS s o)) := sv_slot S (fun q m h => qn (by omega))
  rw [m_wkey S1 (by omega) hf, a_s_n (by omega) (by omega)]
  have S2 : SV nv nb D (q_u (q_u X 149 (240 + i) (cfS s o)) 148 (240 + i) (kyS D (f + 1) + D 139 v + tnS (kyS D (f + 1)) (D 139 v))) := sv_slot S1 (fun q m h => qn (by omega))
  have P : RMp D v i s f l o (q_u (q_u X 149 (240 + i) (cfS s o)) 148 (240 + i) (kyS D (f + 1) + D 139 v + tnS (kyS D (f + 1)) (D 139 v))) := ⟨by rw [qn (by omega), qn (by omega)]; exact x3, by rw [qn (by omega), qn (by omega)]; exact x4, by rw [qn (by omega), qn (by omega)]; exact x5, by rw [qn (by omega), qn (by omega)]; exact x6, qh, by rw [qn (by omega)]; exact qh⟩
  have F2 : FM i A (q_u (q_u X 149 (240 + i) (cfS s o)) 148 (240 + i) (kyS D (f + 1) + D 139 v + tnS (kyS D (f + 1)) (D 139 v))) := (F.u (q0 := 149) (by omega) (by omega) _).u (q0 := 148) (by omega) (by omega) _
  have go : ∀ ba, ba = baS s (ulS (fun q => wnO D v f o q 0) (nS D f o)) → aX8_addRow_b127 nv md Q (nI v) (nI f) (cuI o) (nI (240 + i)) (nI ba) (q_u (q_u X 149 (240 + i) (cfS s o)) 148 (240 + i) (kyS D (f + 1) + D 139 v + tnS (kyS D (f + 1)) (D 139 v))) := fun ba hba => m_127 S2 hv hf hi ho P (by rw [hba]; rfl) F2 hq
  rw [nz_n (by omega), e1, eq_n (by omega) (by omega), show (2 : Int32) = nI 2 from rfl, eq_n (by omega) (by omega)]
  have hsc : s = 0 ∨ s = 1 ∨ s = 2 ∨ s = 3 := by omega
  rcases hsc with e | e | e | e
  · rw [brT' e, m_ul S2 (by omega) hf, nI_add]
    refine go _ ?_
    rw [c0 e, e]
    rfl
  · rw [brF' (by omega), brT' e]
    refine go 2 ?_
    rw [e]; rfl
  · rw [brF' (by omega), brF' (by omega), brT' e]
    cases o with
    | none => exact absurd rfl (c2 e)
    | some u =>
      have hu := ho u rfl
      have h8 := (S.2.2.2.2.1 u f (by omega) hf).1
      have hul := ulS_le (fun q => ng D u f q 0) (cnt D u f)
      show aX8_unlikeStarts nv md (nI u) (nI f) _ _
      rw [m_ul S2 (by omega) hf, nI_add]
      show aX8_addRow_b127 nv md Q (nI v) (nI f) (cuI (some u)) (nI (240 + i)) (nI 1 + nI (ulS (fun q => ng D u f q 0) (cnt D u f) + 1) / (2 : Int32)) _
      rw [n_div2 _ (by omega), nI_add]
      refine go _ ?_
      rw [e]; rfl
  · rw [brF' (by omega), brF' (by omega), brF' (by omega)]
    refine go 4 ?_
    rw [e]; rfl
theorem m_addRow {Q : q_St → Prop} {v i s f l : Nat} {o : Option Nat} (S : SV nv nb D A) (hv : v < nv) (hf : f < 40) (hi : i < 40) (hs : s ≤ 3) (ho : ∀ u, o = some u → u < nv) (c0 : s = 0 → o = some v) (c2 : s = 2 → ¬ o = none) (h143 : A 143 6 = nI i) (hq : ∀ B : q_St, B 143 6 = nI (i + 1) → RM D v i s f l o B → FM i A B → Q B) : aX8_addRow nv md (nI v) (nI s) (nI f) (nI l) (cuI o) Q A := by
  unfold aX8_addRow
  rw [show (6 : Int32) = nI 6 from rfl, in_n (by omega) (by omega), in_n (by omega) (by omega), cl_nI (by omega), h143, a_s_n (by omega) (by omega), show (240 : Int32) = nI 240 from rfl, nI_add, a_s_n (by omega) (by omega), a_s_n (by omega) (by omega), a_s_n (by omega) (by omega), show (2 : Int32) = nI 2 from rfl, eq_n (by omega) (by omega), e1, nI_add]
  have F2 : FM i A (q_u (q_u (q_u (q_u A 143 6 (nI (i + 1))) 144 (240 + i) (nI s)) 145 (240 + i) (nI f)) 146 (240 + i) (nI l)) := by
    refine ((FM.u (q0 := 144) ?_ (by omega) (by omega) _).u (q0 := 145) (by omega) (by omega) _).u (q0 := 146) (by omega) (by omega) _
    intro q m a b c
    rw [qa, if_neg (by omega)]
  have S2 : SV nv nb D (q_u (q_u (q_u (q_u A 143 6 (nI (i + 1))) 144 (240 + i) (nI s)) 145 (240 + i) (nI f)) 146 (240 + i) (nI l)) := sv_slot S (fun q m h => by rw [qn (by omega), qn (by omega), qn (by omega), qn (by omega)])
  have go := m_67 (md := md) S2 hv hf hi hs ho c0 c2 (by rw [qn (by omega), qn (by omega), qn (by omega)]; exact qh) (by rw [qn (by omega), qn (by omega)]; exact qh) (by rw [qn (by omega)]; exact qh) qh F2 hq
  unfold cfS at go
  by_cases z : s = 2
  · rw [if_pos z] at go
    rw [brT' z]; exact go
  · rw [if_neg z] at go
    rw [brF' z]; exact go
/-- what stands while the model adds ROWS -/
def KM (A0 A : q_St) : Prop := ∀ q m, ¬ (q = 143 ∧ m = 6) → ¬ (144 ≤ q ∧ q ≤ 150 ∧ 240 ≤ m) → ¬ (q = 151 ∧ 7680 ≤ m) → A q m = A0 q m
theorem FM.km {A0 B : q_St} {i : Nat} (h : FM i A B) (K : KM A0 A) : KM A0 B := fun q m a b c => by
  rw [h q m a (by omega) (by omega)]; exact K q m a b c
theorem KM.keep {A0 : q_St} (K : KM A0 A) : Keep A0 A := fun i k hs => by
  refine K i k ?_ ?_ ?_ <;> (intro e; simp [scr] at hs; omega)
def MM (nb : Nat) (D : q_St) (v i : Nat) (A0 A : q_St) : Prop := A 143 6 = nI i ∧ (∀ r, r < i → RM D v r (rowS nb D v (rbS nb D v r)).1 (rbS nb D v r) (rowS nb D v (rbS nb D v r)).2.1 (rowS nb D v (rbS nb D v r)).2.2 A) ∧ KM A0 A
theorem m_mkL {A0 : q_St} {Q : q_St → Prop} {v : Nat} (S0 : SV nv nb D A0) (hv : v < nv) (hq : ∀ (A : q_St) (rc : Nat), isRc nb D v rc → MM nb D v rc A0 A → Q A) : ∀ (F i : Nat) (A : q_St), nb < F + rbS nb D v i → (∀ r, r < i → rbS nb D v r < nb) → MM nb D v i A0 A → alX8_make_b39 nv md Q F (nI v) (nI (rbS nb D v i)) A := by
  have h6 := S0.1.1
  have h40 := S0.1.2.1
  intro F
  induction F with
  | zero => intro i A h2 hr; have := rbS_le i hr; exact absurd h2 (by omega)
  | succ F ih =>
    intro i A h2 hr hM
    obtain ⟨m1, m3, m4⟩ := id hM
    have S : SV nv nb D A := sv_slot S0 (fun q m hq => m4 q m (by omega) (by omega) (by omega))
    have hb := rbS_le i hr
    show aX8_make_b39 nv md Q (alX8_make_b39 nv md Q F) (nI v) (nI (rbS nb D v i)) A
    unfold aX8_make_b39 aX8_make_b166
    rw [S.1.2.2.2.2.1, le_n (by omega) (by omega)]
    by_cases g : nb ≤ rbS nb D v i
    · rw [brT g]
      exact hq A i ⟨by omega, hr⟩ hM
    · have hlt : rbS nb D v i < nb := by omega
      have hlen := rowS_len (D := D) (v := v) hlt
      have hnx : ∀ B : q_St, B 143 6 = nI (i + 1) → RM D v i (rowS nb D v (rbS nb D v i)).1 (rbS nb D v i) (rowS nb D v (rbS nb D v i)).2.1 (rowS nb D v (rbS nb D v i)).2.2 B → FM i A B → alX8_make_b39 nv md Q F (nI v) (nI (rbS nb D v i + (rowS nb D v (rbS nb D v i)).2.1)) B := by
        intro B b3 bR bF
        have eb : rbS nb D v (i + 1) = rbS nb D v i + (rowS nb D v (rbS nb D v i)).2.1 := rfl
        rw [← eb]
        refine ih (i + 1) B (by omega) (fun r hr2 => ?_) ⟨b3, fun r hr2 => ?_, bF.km m4⟩
        · by_cases z : r = i
          · rw [z]; exact hlt
          · exact hr r (by omega)
        · by_cases z : r = i
          · subst z; exact bR
          · have hrb := hr r (by omega)
            exact bF.rm (by omega) (nS8 S (by omega) (fun u hu => by have := rowS_src S hv hrb hu; omega)) (m3 r (by omega))
      rw [brF g, m_cue S hv hlt, m_empty S (by omega) (by omega), brB, e1, nI_add, cuI_no' (fun u hu => by have := (cuS_ok S hlt hu).1; omega)]
      by_cases z : cnt D v (rbS nb D v i) = 0
      · rw [if_pos z]
        cases gc : cuS nb D v (rbS nb D v i) with
        | none =>
          rw [rowS_1 z gc] at hnx
          have hre := (reS_le (nb := nb) (D := D) (v := v) nb (rbS nb D v i + 1)).1
          rw [if_pos rfl, m_restL S hv nb q_fuel (rbS nb D v i + 1) (by omega) (by unfold q_fuel; omega) (by omega)]
          unfold aX8_make_b150 aX8_make_b166
          rw [pk_sub (by omega)]
          refine m_addRow (o := none) (s := 1) (l := reS nb D v nb (rbS nb D v i + 1) - rbS nb D v i) S hv (by omega) (by omega) (by omega) (fun u hu => absurd hu (by simp)) (by omega) (by omega) m1 (fun B b3 bR bF => ?_)
          have := hnx B b3 bR bF
          rw [show rbS nb D v i + (reS nb D v nb (rbS nb D v i + 1) - rbS nb D v i) = reS nb D v nb (rbS nb D v i + 1) by omega] at this
          exact this
        | some u =>
          rw [rowS_2 z gc] at hnx
          have hu := (cuS_ok S hlt gc).1
          rw [if_neg (by simp)]
          exact m_addRow (o := some u) (s := 2) (l := 1) S hv (by omega) (by omega) (by omega) (fun t ht => by obtain rfl := Option.some.inj ht; exact hu) (by omega) (by simp) m1 (fun B b3 bR bF => hnx B b3 bR bF)
      · rw [if_neg z]
        rw [rowS_0 z] at hnx
        exact m_addRow (o := some v) (s := 0) (l := 1) S hv (by omega) (by omega) (by omega) (fun t ht => by obtain rfl := Option.some.inj ht; exact hv) (fun _ => rfl) (by omega) m1 (fun B b3 bR bF => hnx B b3 bR bF)
def RMs (nb : Nat) (D : q_St) (v i : Nat) (A : q_St) : Prop := RM D v i (rwS nb D v i).1 (rwS nb D v i).2.1 (rwS nb D v i).2.2.1 (rwS nb D v i).2.2.2 A
def PrM (nb : Nat) (D : q_St) (v rc : Nat) (A : q_St) : Prop := A 143 6 = nI rc ∧ ∀ i, i < rc → RMs nb D v i A
theorem m_make {Q : q_St → Prop} {v : Nat} (S : SV nv nb D A) (hv : v < nv) (hq : ∀ (B : q_St) (rc : Nat), rcS nb D v rc → PrM nb D v rc B → KM A B → Q B) : aX8_make nv md (nI v) Q A := by
  have h6 := S.1.1
  have h40 := S.1.2.1
  unfold aX8_make
  rw [show (6 : Int32) = nI 6 from rfl, a_s_n (by omega) (by omega)]
  have SB : SV nv nb D (q_u A 143 6 0) := sv_slot S (fun q m h => qn (by omega))
  have hK : KM A (q_u A 143 6 0) := fun q m a b c => by rw [qa, if_neg a]
  rw [m_tacet SB (by omega), brD', SB.1.2.2.2.2.1, lz_n (by omega)]
  by_cases z : emp D v nb = true
  · rw [if_pos z]
    by_cases y : nb = 0
    · rw [brT y]
      exact hq _ 0 ⟨fun _ => by rw [if_pos y], fun q => absurd q (by rw [z]; simp)⟩ ⟨qh, fun i hi => absurd hi (Nat.not_lt_zero i)⟩ hK
    · rw [brF y]
      refine m_addRow (o := none) (s := 3) (f := 0) (l := nb) (i := 0) SB hv (by omega) (by omega) (by omega) (fun u hu => absurd hu (by simp)) (by omega) (by omega) qh (fun B b3 bR bF => ?_)
      refine hq B 1 ⟨fun _ => by rw [if_neg y], fun q => absurd q (by rw [z]; simp)⟩ ⟨b3, fun i hi => ?_⟩ (bF.km hK)
      rw [show i = 0 by omega]
      unfold RMs rwS
      rw [if_pos z]
      exact bR
  · rw [if_neg z]
    have he : emp D v nb = false := by simpa using z
    refine m_mkL SB hv (fun X rc hrc hM => ?_) q_fuel 0 _ (by show nb < q_fuel + 0; unfold q_fuel; omega) (fun r hr => absurd hr (Nat.not_lt_zero r)) ⟨qh, fun r hr => absurd hr (Nat.not_lt_zero r), fun _ _ _ _ _ => rfl⟩
    refine hq X rc ⟨fun q => absurd q z, fun _ => hrc⟩ ⟨hM.1, fun i hi => ?_⟩ (fun q m a b c => (hM.2.2 q m a b c).trans (hK q m a b c))
    unfold RMs rwS
    rw [if_neg z]
    exact hM.2.1 i hi
end CMAKM
