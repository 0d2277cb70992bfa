/-- class and model stand for the same SCORE -/
def InvS (ax am : Nat) (S : q_S) : Prop := ∃ (ad : Nat → Nat) (nv : Nat) (md : Nat → Bool) (nb : Nat) (A : q_St), Rep ad nv md A S ∧ Corr nv md nb A ∧ ad 0 = ax ∧ ad 128 = am
theorem inv_7 {ax am : Nat} : ∀ S, InvS ax am S → q_is 6 ax S := by
  rintro S ⟨ad, nv, md, nb, A, h, -, e, -⟩
  subst e
  exact ⟨_, cX7 h⟩
theorem inv_8 {ax am : Nat} : ∀ S, InvS ax am S → q_is 7 am S := by
  rintro S ⟨ad, nv, md, nb, A, h, -, -, e⟩
  subst e
  exact ⟨_, cX8 h⟩
theorem ops_ok (ax am : Nat) : q_ops (InvS ax am) ax am := by
  rintro S ⟨ad, nv, md, nb, A, h, C, rfl, rfl⟩
  have hm := h.2.1
  have fin : ∀ {r r2 : Int32} {A2 : q_St} {S2 : q_S}, Rep ad nv md A2 S2 → (r = r2 ∧ Corr nv md nb A2) → r = r2 ∧ InvS (ad 0) (ad 128) S2 := fun h2 hq => ⟨hq.1, ad, nv, md, nb, _, h2, hq.2, rfl, rfl⟩
  refine ⟨?_, fun x1 => ?_, fun x1 x2 x3 x4 x5 x6 => ?_, fun x1 x2 => ?_, fun x1 x2 x3 => ?_, fun x1 x2 => ?_, fun x1 x2 x3 => ?_, fun x1 => ?_, fun x1 => ?_, fun x1 x2 x3 => ?_, fun x1 x2 x3 x4 => ?_, fun x1 => ?_, fun x1 => ?_, fun x1 => ?_, fun x1 x2 => ?_, fun x1 => ?_, fun x1 x2 x3 => ?_, fun x1 x2 x3 => ?_, fun x1 x2 => ?_, fun x1 => ?_⟩
  · refine EX7_voice h C.1.2.2.1 (fun hn ad' S' e1 e2 h' => ?_) (fun hn => ?_)
    · rw [← e2]
      exact EX8_voice h' (op_voice C hn) (fun r2 A2 S2 h2 hq => ⟨hq.1, ad', nv + 1, md, nb, A2, h2, hq.2, e1, rfl⟩)
    · have e6 : nv = 6 := by have := C.1.1; omega
      subst e6
      exact EX8_voice h (op_voice6 C) (fun r2 A2 S2 h2 hq => fin h2 hq)
  · exact EX7_bars h (op_bars C x1) (fun r A1 S1 h1 hQ => EX8_bars h1 hQ (fun r2 A2 S2 h2 hq => by
      obtain ⟨q1, nb', q2⟩ := hq
      exact ⟨q1, ad, nv, md, nb', A2, h2, q2, rfl, rfl⟩))
  · exact EX7_note h (op_note C x1 x2 x3 x4 x5 x6) (fun r A1 S1 h1 hQ => EX8_note h1 hQ (fun r2 A2 S2 h2 hq => fin h2 hq))
  · exact EX7_drop h (op_drop C x1 x2) (fun r A1 S1 h1 hQ => EX8_drop h1 hQ (fun r2 A2 S2 h2 hq => fin h2 hq))
  · exact EX7_mark h (op_mark C x1 x2 x3) (fun r A1 S1 h1 hQ => EX8_mark h1 hQ (fun r2 A2 S2 h2 hq => fin h2 hq))
  · exact EX7_unmark h (op_unmark C x1 x2) (fun r A1 S1 h1 hQ => EX8_unmark h1 hQ (fun r2 A2 S2 h2 hq => fin h2 hq))
  · exact EX7_instrument h (op_instr C x1 x2 x3) (fun r A1 S1 h1 hQ => EX8_instrument h1 hQ (fun r2 A2 S2 h2 hq => fin h2 hq))
  · exact EX7_cueing h (op_cueing C x1) (fun r A1 S1 h1 hQ => EX8_cueing h1 hQ (fun r2 A2 S2 h2 hq => fin h2 hq))
  · by_cases hx : 0 ≤ x1.toInt ∧ x1.toInt < nv
    · obtain ⟨v, hv, rfl⟩ := i_of hx.1 hx.2 (by have := C.1.1; omega)
      refine EX7_extract (Q1 := fun r A1 => aX8_extract nv (mdv md v) (nI v) (fun r2 A2 => r = r2 ∧ Corr nv (mdv md v) nb A2) A1) h hv (fun B hB => op_extract C hv hB) (fun ad' r A1 S1 e1 e2 h1 hQ => ?_)
      rw [← e2]
      exact EX8_extract h1 hQ (fun r2 A2 S2 h2 hq => ⟨hq.1, ad', nv, mdv md v, nb, A2, h2, hq.2, e1, rfl⟩)
    · exact EX7_extract_n h hx (fun S1 h1 => EX8_extract h1 (op_extract_n C hx) (fun r2 A2 S2 h2 hq => fin h2 hq))
  · exact EX7_row h (op_row C x1 x2 x3) (fun r A1 S1 h1 hQ => EX8_row h1 hQ (fun r2 A2 S2 h2 hq => fin h2 hq))
  · exact EX7_written h (op_written C x1 x2 x3 x4) (fun r A1 S1 h1 hQ => EX8_written h1 hQ (fun r2 A2 S2 h2 hq => fin h2 hq))
  · exact EX7_unlike h (op_unlike C x1) (fun r A1 S1 h1 hQ => EX8_unlike h1 hQ (fun r2 A2 S2 h2 hq => fin h2 hq))
  · by_cases hx : (0 ≤ x1.toInt ∧ x1.toInt < nv) ∧ md x1.toNatClampNeg = true
    · obtain ⟨v, hv, rfl⟩ := i_of hx.1.1 hx.1.2 (by have := C.1.1; omega)
      have hm2 : md v = true := by
        have := hx.2
        rw [cl_nI (by have := C.1.1; omega)] at this
        exact this
      refine EX7_renew (Q1 := fun r A1 => aX8_renew nv md (nI v) (fun r2 A2 => r = r2 ∧ Corr nv md nb A2) A1) h hv hm2 (op_renew C hv hm2) (fun ad' r A1 S1 e1 e2 h1 hQ => ?_)
      rw [← e2]
      exact EX8_renew h1 hQ (fun r2 A2 S2 h2 hq => ⟨hq.1, ad', nv, md, nb, A2, h2, hq.2, e1, rfl⟩)
    · exact EX7_renew_n h hx (fun S1 h1 => EX8_renew h1 (op_renew_n C hx) (fun r2 A2 S2 h2 hq => fin h2 hq))
  · exact EX7_tacet h (op_tacet C x1) (fun r A1 S1 h1 hQ => EX8_tacet h1 hQ (fun r2 A2 S2 h2 hq => fin h2 hq))
  · exact EX7_lay h (op_lay C hm x1 x2) (fun r A1 S1 h1 hQ => EX8_lay h1 hQ (fun r2 A2 S2 h2 hq => fin h2 hq))
  · exact EX7_pages h (op_pages C hm x1) (fun r A1 S1 h1 hQ => EX8_pages h1 hQ (fun r2 A2 S2 h2 hq => fin h2 hq))
  · exact EX7_page h (op_page C hm x1 x2 x3) (fun r A1 S1 h1 hQ => EX8_page h1 hQ (fun r2 A2 S2 h2 hq => fin h2 hq))
  · exact EX7_condensed h (op_condensed C x1 x2 x3) (fun r A1 S1 h1 hQ => EX8_condensed h1 hQ (fun r2 A2 S2 h2 hq => fin h2 hq))
  · exact EX7_together h (op_together C x1 x2) (fun r A1 S1 h1 hQ => EX8_together h1 hQ (fun r2 A2 S2 h2 hq => fin h2 hq))
  · exact EX7_count h (op_count C hm x1) (fun r A1 S1 h1 hQ => EX8_count h1 hQ (fun r2 A2 S2 h2 hq => fin h2 hq))
