theorem P_row13 {gh : Nat} {x : Nat} {K : XK} {h : XH} (I : Inv gh x K h) (a1 a2 a3 : Int32) : ∃ h', f_row13 x h a1 a2 a3 = some h' ∧ Inv gh x K h' := by
  obtain ⟨z1, z1a, z1b, rfl⟩ := jI_ex a1
  obtain ⟨z2, z2a, z2b, rfl⟩ := jI_ex a2
  obtain ⟨z3, z3a, z3b, rfl⟩ := jI_ex a3
  have e0 : ∀ b1 b2 b3, f_row13 x h b1 b2 b3 = rc_ x (x_lb (f_X11_about x h b1 b2 b3) [0, 2, 4] (fun v h => x_l h (x + 76) (0 : Int32).toNatClampNeg v.toInt64)) (fun h => f_X12_about x h b1 b2 b3) := fun _ _ _ => rfl
  rw [e0]
  have h1 := I.w1
  have h0 := I.w0
  have h6 := I.w6
  have e7 := I.2.1.1.2.2.2.1
  have t6 : (6 : Int).toNat = 6 := rfl
  by_cases c : (0 ≤ z1 ∧ z1 < wd x h 1) ∧ 0 ≤ z2 ∧ z2 < wd x h (290 + 81 * z1.toNat + 2)
  · obtain ⟨c1, c2⟩ := c
    obtain ⟨p, rfl⟩ : ∃ p : Nat, z1 = p := ⟨z1.toNat, by omega⟩
    rw [Int.toNat_natCast] at c2
    have hp := c1.2
    by_cases hq : 0 < wd x h (290 + 81 * p + 3)
    · obtain ⟨cp, cr⟩ := c_plc I hp hq (i := z2) (by have := (I.wp hp).2.2.2.2.2.2.2.1; omega)
      by_cases c3 : 0 ≤ z3 ∧ z3 ≤ 7
      · obtain ⟨tm, q, P1, P2, P3, P4, P5, P6, P7⟩ := I.put hp hq
        obtain ⟨b1, b2, b3, b6, b7, b8, b9, b10⟩ := id P2
        obtain ⟨-, -, -, -, -, -, p7, p8, -, -, -, -, p13, -⟩ := I.wp hp
        obtain ⟨-, -, -, -, -, n6, n7, n8, n9, n10⟩ := nm_ (per := wd x h (290 + 81 * p + 6)) (i := z2) (n := wd x h (290 + 81 * p + 2)) b6 b7 c2.1
        have ni := n10 c2.2
        have hd := I.dr ⟨b1, b2⟩
        have Pi := P7 _ n8 ni
        have l2 := P1.2.1
        have dv : jI z2 / jI (wd x h (290 + 81 * p + 6)) = jI (z2 / wd x h (290 + 81 * p + 6)) := jI_div (by omega) (by omega) (by omega) (by omega)
        have cag : f_X4_ageOf (x + 13 + 6 + 3 * p + 1) h (jI (z2 / wd x h (290 + 81 * p + 6))) (h.1 (x + 9) 7) = jI (ag_ (wd x h) p (wd x h 6) (z2 / wd x h (290 + 81 * p + 6))) := by
          unfold f_X4_ageOf ag_
          rw [P1.2.2.2.2.2.1, P1.2.2.2.2.2.2.1, e7, jI_sub, jI_mul, jI_sub, show (10 : Int32) = jI 10 from rfl, jI_div (by omega) (by omega) (by omega) (by omega), Pi.1, show wd x h 6 - tm - z2 / wd x h (290 + 81 * p + 6) * q = wd x h 6 - (tm + z2 / wd x h (290 + 81 * p + 6) * q) by omega]
        have cold := c_old I hp (v2 := x + 13 + 6 + 3 * p + 1) (dr := wd x h (290 + 81 * p + 5) + z2 / wd x h (290 + 81 * p + 6)) P1.1 P1.2.2.2.2.2.2.2 (by omega) (by omega) ⟨b9, b10⟩
        rw [Int.sub_add_cancel] at cold
        have clk := c_like I hp (v2 := x + 13 + 6 + 3 * p + 1) P1.1 P1.2.1 P1.2.2.1 ⟨b1, b2⟩ b3 ⟨b6, b7⟩ b8 (pl := z2 / wd x h (290 + 81 * p + 6)) ⟨n8, ni⟩
        obtain ⟨cda, cdb⟩ := c_dul I hp (i := z2) (r := z2 % wd x h (290 + 81 * p + 6)) (by omega) ⟨n6, by omega⟩
        have cd1 : x_b (f_X2_cardAt (x + 13 + 6 + 3 * p) h (jI z2) * jI 3 + jI (z2 % wd x h (290 + 81 * p + 6))) 156 = true := cda
        have cd2 : h.1 (x + 10) (f_X2_cardAt (x + 13 + 6 + 3 * p) h (jI z2) * jI 3 + jI (z2 % wd x h (290 + 81 * p + 6))).toNatClampNeg = jI (du_ (wd x h) (cd_ (wd x h) p z2) (z2 % wd x h (290 + 81 * p + 6))) := cdb
        have sd : h.1 (x + 13 + 6 + 3 * p + 2) z2.toNat = jI (wd x h (290 + 81 * p + 29 + z2.toNat)) := (I.pk hp).2.2.2.2.1 z2.toNat (by omega)
        have rr : ∀ H : XH, Inv gh x K H → wd x H = wd x h → ∃ H1, f_X12_asks x (x_i H (x + 64) 0 (jI 0)) (jI p) (jI z2) (jI (ag_ (wd x h) p (wd x h 6) (z2 / wd x h (290 + 81 * p + 6)))) (jI 0) = some H1 ∧ RF x H1 (fg_ (wd x h) p (wd x h (290 + 81 * p + 4)) (wd x h (290 + 81 * p + 5)) (wd x h (290 + 81 * p + 6)) (wd x h (290 + 81 * p + 7)) 0 (wd x h (290 + 81 * p + 3)) (ag_ (wd x h) p (wd x h 6) (z2 / wd x h (290 + 81 * p + 6))) (z2 / wd x h (290 + 81 * p + 6)) (z2 % wd x h (290 + 81 * p + 6)) (du_ (wd x h) (cd_ (wd x h) p z2) (z2 % wd x h (290 + 81 * p + 6)))) ∧ (∀ a, a ≠ x + 69 → H1.1 a = (x_i H (x + 64) 0 (jI 0)).1 a) ∧ H1.2 = (x_i H (x + 64) 0 (jI 0)).2 ∧ wd x (x_i H (x + 64) 0 (jI 0)) = wd x h ∧ f_X12_noPlace x (x_i H (x + 64) 0 (jI 0)) (jI p) (jI z2) = some (jI 0) ∧ f_X12_isPut x (x_i H (x + 64) 0 (jI 0)) (jI p) = some (jI 1) ∧ f_X12_ageOf x (x_i H (x + 64) 0 (jI 0)) (jI p) (jI z2) (jI (wd x h 6)) = some (jI (ag_ (wd x h) p (wd x h 6) (z2 / wd x h (290 + 81 * p + 6)))) ∧ f_X12_of x (x_i H (x + 64) 0 (jI 0)) (jI p) (jI 6) = some (jI (wd x h (290 + 81 * p + 6))) ∧ H.1 (x + 65) 6 = jI (wd x h 6) ∧ f_X12_of x H1 (jI p) (jI 5) = some (jI (wd x h (290 + 81 * p + 5))) ∧ f_X12_of x H1 (jI p) (jI (29 + z2)) = some (jI (wd x h (290 + 81 * p + 29 + z2.toNat))) := by
          intro H J eH
          have ew : wd x (x_i H (x + 64) 0 (jI 0)) = wd x h := by rw [wm0, eH]
          have e1 := ckI_ry J.m0 (p := p) (i := z2) (by rw [ew]; exact hp) (by rw [ew]; exact c2)
          have e3 := r_isp J.m0 (p := p) (by rw [ew]; exact hp)
          rw [ew, if_pos hq] at e3
          have ra := r_age J.m0 (p := p) (by rw [ew]; exact hp) (by rw [ew]; exact hq) (i := z2) (ck := wd x h 6) (by rw [ew]; exact c2) (by rw [ew]; omega)
          rw [ew] at ra
          have o6 := of_6 (x := x) (h := x_i H (x + 64) 0 (jI 0)) (p := p) (by omega)
          rw [ew] at o6
          have rs := r_supp J.m0 (p := p) (by rw [ew]; exact hp) (hs := wd x h (290 + 81 * p + 4)) (dr := wd x h (290 + 81 * p + 5)) (per := wd x h (290 + 81 * p + 6)) (sec := wd x h (290 + 81 * p + 7)) (gone := 0) (ah := wd x h (290 + 81 * p + 3)) (age := ag_ (wd x h) p (wd x h 6) (z2 / wd x h (290 + 81 * p + 6))) (i := z2) (by rw [ew]; exact ⟨b1, b2⟩) b3 ⟨b6, b7⟩ (by rw [ew]; exact P6) (by omega) (by rw [ew]; exact c2)
          rw [ew] at rs
          obtain ⟨H1, g1, g4, g5, g2⟩ := rs
          have ew1 : wd x H1 = wd x h := by rw [(Fr.o1 g4 g5 (by decide) : Fr x _ H1).ew, ew]
          have o5 := of_5 (x := x) (h := H1) (p := p) (by omega)
          have os := of_s (x := x) (h := H1) (p := p) (i := z2.toNat) (by omega) (by omega)
          rw [ew1] at o5 os
          rw [Int.toNat_of_nonneg c2.1] at os
          refine ⟨H1, ?_, g2, g4, g5, ew, e1, e3, ra.1, o6, by rw [wd_j, eH], o5, os⟩
          rw [r_asks (by omega), ew, g1, Option.bind_some]
        have hz : z3 = 0 ∨ z3 = 1 ∨ z3 = 2 ∨ z3 = 3 ∨ z3 = 4 ∨ z3 = 5 ∨ z3 = 6 ∨ z3 = 7 := by omega
        rcases hz with e | e | e | e | e | e | e | e <;> subst e
        · refine rc_q I (res := .inr (jI (z2 / wd x h (290 + 81 * p + 6)))) ⟨h, ?_, Fr.rf⟩ (fun H J eH => ?_)
          · simp (disch := omega) only [f_X11_about, ckI_y I hp c2, ckT_y I hp hq, jL, jJ, jI_lt, jI_le, jI_eq, jI_nat, jBt, jBo, gi_, gl_, x_let, if_pos, if_neg, if_true, Option.bind_some, tvz, tvo, wd_j, and_self, true_and, and_true, Int.toNat_zero, Int.toNat_natCast, xb_v, xb_e, isb0, isb1, gil, gl2, wd_i, wd_l, cp, cr]
          obtain ⟨H1, g1, g2, g4, g5, ew, e1, e3, ra, o6, e6, o5, os⟩ := rr H J eH
          refine ⟨_, H1, ?_, fr_0.tr (Fr.o1 g4 g5 (by decide)), by rw [g5]; rfl, by rw [g4 _ (by omega)]; exact gi_s, rfl⟩
          simp (disch := omega) only [f_X12_about, f_X12_in, jL, jJ, jI_lt, jI_le, jI_eq, jI_nat, jBt, jBo, gi_, gl_, x_let, if_pos, if_neg, if_true, Option.bind_some, tvz, tvo, and_self, true_and, and_true, Int.toNat_zero, Int.toNat_natCast, xb_v, xb_e, isb0, isb1, gil, gl2, wd_i, wd_l, e1, e3, o6, e6, t6, ra, g1, dv]
        · refine rc_q I (res := .inr (jI (wd x h (290 + 81 * p + 5) + z2 / wd x h (290 + 81 * p + 6)))) ⟨h, ?_, Fr.rf⟩ (fun H J eH => ?_)
          · simp (disch := omega) only [f_X11_about, ckI_y I hp c2, ckT_y I hp hq, jL, jJ, jI_lt, jI_le, jI_eq, jI_nat, jBt, jBo, gi_, gl_, x_let, if_pos, if_neg, if_true, Option.bind_some, tvz, tvo, wd_j, and_self, true_and, and_true, Int.toNat_zero, Int.toNat_natCast, xb_v, xb_e, isb0, isb1, gil, gl2, wd_i, wd_l, cp, cr, l2]
          obtain ⟨H1, g1, g2, g4, g5, ew, e1, e3, ra, o6, e6, o5, os⟩ := rr H J eH
          refine ⟨_, H1, ?_, fr_0.tr (Fr.o1 g4 g5 (by decide)), by rw [g5]; rfl, by rw [g4 _ (by omega)]; exact gi_s, rfl⟩
          simp (disch := omega) only [f_X12_about, f_X12_in, jL, jJ, jI_lt, jI_le, jI_eq, jI_nat, jBt, jBo, gi_, gl_, x_let, if_pos, if_neg, if_true, Option.bind_some, tvz, tvo, and_self, true_and, and_true, Int.toNat_zero, Int.toNat_natCast, xb_v, xb_e, isb0, isb1, gil, gl2, wd_i, wd_l, e1, e3, o6, e6, t6, ra, g1, dv, o5]
        · refine rc_q I (res := .inr (jI (z2 % wd x h (290 + 81 * p + 6)))) ⟨h, ?_, Fr.rf⟩ (fun H J eH => ?_)
          · simp (disch := omega) only [f_X11_about, ckI_y I hp c2, ckT_y I hp hq, jL, jJ, jI_lt, jI_le, jI_eq, jI_nat, jBt, jBo, gi_, gl_, x_let, if_pos, if_neg, if_true, Option.bind_some, tvz, tvo, wd_j, and_self, true_and, and_true, Int.toNat_zero, Int.toNat_natCast, xb_v, xb_e, isb0, isb1, gil, gl2, wd_i, wd_l, cp, cr]
          obtain ⟨H1, g1, g2, g4, g5, ew, e1, e3, ra, o6, e6, o5, os⟩ := rr H J eH
          have rf := g2 7 (by omega) (by omega)
          have e7t : (7 : Int).toNat = 7 := rfl
          rw [e7t] at rf
          simp only [fg_] at rf
          refine ⟨_, H1, ?_, fr_0.tr (Fr.o1 g4 g5 (by decide)), by rw [g5]; rfl, by rw [g4 _ (by omega)]; exact gi_s, rfl⟩
          simp (disch := omega) only [f_X12_about, f_X12_in, jL, jJ, jI_lt, jI_le, jI_eq, jI_nat, jBt, jBo, gi_, gl_, x_let, if_pos, if_neg, if_true, Option.bind_some, tvz, tvo, and_self, true_and, and_true, Int.toNat_zero, Int.toNat_natCast, xb_v, xb_e, isb0, isb1, gil, gl2, wd_i, wd_l, e1, e3, o6, e6, t6, ra, g1, dv, rf, e7t]
        · refine rc_q I (res := .inr (jI (ag_ (wd x h) p (wd x h 6) (z2 / wd x h (290 + 81 * p + 6))))) ⟨h, ?_, Fr.rf⟩ (fun H J eH => ?_)
          · simp (disch := omega) only [f_X11_about, ckI_y I hp c2, ckT_y I hp hq, jL, jJ, jI_lt, jI_le, jI_eq, jI_nat, jBt, jBo, gi_, gl_, x_let, if_pos, if_neg, if_true, Option.bind_some, tvz, tvo, wd_j, and_self, true_and, and_true, Int.toNat_zero, Int.toNat_natCast, xb_v, xb_e, isb0, isb1, gil, gl2, wd_i, wd_l, cp, cr, cag]
          obtain ⟨H1, g1, g2, g4, g5, ew, e1, e3, ra, o6, e6, o5, os⟩ := rr H J eH
          have rf := g2 4 (by omega) (by omega)
          have e4t : (4 : Int).toNat = 4 := rfl
          rw [e4t] at rf
          simp only [fg_] at rf
          refine ⟨_, H1, ?_, fr_0.tr (Fr.o1 g4 g5 (by decide)), by rw [g5]; rfl, by rw [g4 _ (by omega)]; exact gi_s, rfl⟩
          simp (disch := omega) only [f_X12_about, f_X12_in, jL, jJ, jI_lt, jI_le, jI_eq, jI_nat, jBt, jBo, gi_, gl_, x_let, if_pos, if_neg, if_true, Option.bind_some, tvz, tvo, and_self, true_and, and_true, Int.toNat_zero, Int.toNat_natCast, xb_v, xb_e, isb0, isb1, gil, gl2, wd_i, wd_l, e1, e3, o6, e6, t6, ra, g1, dv, rf, e4t]
        · refine rc_q I (res := .inr (jI (old_ (wd x h) p (wd x h (290 + 81 * p + 4)) (wd x h (290 + 81 * p + 5) + z2 / wd x h (290 + 81 * p + 6)) (wd x h (290 + 81 * p + 3))))) ⟨h, ?_, Fr.rf⟩ (fun H J eH => ?_)
          · simp (disch := omega) only [f_X11_about, ckI_y I hp c2, ckT_y I hp hq, jL, jJ, jI_lt, jI_le, jI_eq, jI_nat, jBt, jBo, gi_, gl_, x_let, if_pos, if_neg, if_true, Option.bind_some, tvz, tvo, wd_j, and_self, true_and, and_true, Int.toNat_zero, Int.toNat_natCast, xb_v, xb_e, isb0, isb1, gil, gl2, wd_i, wd_l, cp, cr, l2, cold]
          obtain ⟨H1, g1, g2, g4, g5, ew, e1, e3, ra, o6, e6, o5, os⟩ := rr H J eH
          have rf := g2 2 (by omega) (by omega)
          have e2t : (2 : Int).toNat = 2 := rfl
          rw [e2t] at rf
          simp only [fg_] at rf
          refine ⟨_, H1, ?_, fr_0.tr (Fr.o1 g4 g5 (by decide)), by rw [g5]; rfl, by rw [g4 _ (by omega)]; exact gi_s, rfl⟩
          simp (disch := omega) only [f_X12_about, f_X12_in, jL, jJ, jI_lt, jI_le, jI_eq, jI_nat, jBt, jBo, gi_, gl_, x_let, if_pos, if_neg, if_true, Option.bind_some, tvz, tvo, and_self, true_and, and_true, Int.toNat_zero, Int.toNat_natCast, xb_v, xb_e, isb0, isb1, gil, gl2, wd_i, wd_l, e1, e3, o6, e6, t6, ra, g1, dv, rf, e2t]
        · refine rc_q I (res := .inr (jI (like_ (wd x h) (wd x h (290 + 81 * p + 4)) (wd x h (290 + 81 * p + 5)) (pl_ (wd x h (290 + 81 * p + 2)) (wd x h (290 + 81 * p + 6))) (z2 / wd x h (290 + 81 * p + 6))))) ⟨h, ?_, Fr.rf⟩ (fun H J eH => ?_)
          · simp (disch := omega) only [f_X11_about, ckI_y I hp c2, ckT_y I hp hq, jL, jJ, jI_lt, jI_le, jI_eq, jI_nat, jBt, jBo, gi_, gl_, x_let, if_pos, if_neg, if_true, Option.bind_some, tvz, tvo, wd_j, and_self, true_and, and_true, Int.toNat_zero, Int.toNat_natCast, xb_v, xb_e, isb0, isb1, gil, gl2, wd_i, wd_l, cp, cr, clk]
          obtain ⟨H1, g1, g2, g4, g5, ew, e1, e3, ra, o6, e6, o5, os⟩ := rr H J eH
          have rf := g2 3 (by omega) (by omega)
          have e3t : (3 : Int).toNat = 3 := rfl
          rw [e3t] at rf
          simp only [fg_] at rf
          refine ⟨_, H1, ?_, fr_0.tr (Fr.o1 g4 g5 (by decide)), by rw [g5]; rfl, by rw [g4 _ (by omega)]; exact gi_s, rfl⟩
          simp (disch := omega) only [f_X12_about, f_X12_in, jL, jJ, jI_lt, jI_le, jI_eq, jI_nat, jBt, jBo, gi_, gl_, x_let, if_pos, if_neg, if_true, Option.bind_some, tvz, tvo, and_self, true_and, and_true, Int.toNat_zero, Int.toNat_natCast, xb_v, xb_e, isb0, isb1, gil, gl2, wd_i, wd_l, e1, e3, o6, e6, t6, ra, g1, dv, rf, e3t]
        · refine rc_q I (res := .inr (jI (du_ (wd x h) (cd_ (wd x h) p z2) (z2 % wd x h (290 + 81 * p + 6))))) ⟨h, ?_, Fr.rf⟩ (fun H J eH => ?_)
          · simp (disch := omega) only [f_X11_about, ckI_y I hp c2, ckT_y I hp hq, jL, jJ, jI_lt, jI_le, jI_eq, jI_nat, jBt, jBo, gi_, gl_, x_let, if_pos, if_neg, if_true, Option.bind_some, tvz, tvo, wd_j, and_self, true_and, and_true, Int.toNat_zero, Int.toNat_natCast, xb_v, xb_e, isb0, isb1, gil, gl2, wd_i, wd_l, cp, cr, cd1, cd2]
          obtain ⟨H1, g1, g2, g4, g5, ew, e1, e3, ra, o6, e6, o5, os⟩ := rr H J eH
          have rf := g2 1 (by omega) (by omega)
          have e1t : (1 : Int).toNat = 1 := rfl
          rw [e1t] at rf
          simp only [fg_] at rf
          refine ⟨_, H1, ?_, fr_0.tr (Fr.o1 g4 g5 (by decide)), by rw [g5]; rfl, by rw [g4 _ (by omega)]; exact gi_s, rfl⟩
          simp (disch := omega) only [f_X12_about, f_X12_in, jL, jJ, jI_lt, jI_le, jI_eq, jI_nat, jBt, jBo, gi_, gl_, x_let, if_pos, if_neg, if_true, Option.bind_some, tvz, tvo, and_self, true_and, and_true, Int.toNat_zero, Int.toNat_natCast, xb_v, xb_e, isb0, isb1, gil, gl2, wd_i, wd_l, e1, e3, o6, e6, t6, ra, g1, dv, rf, e1t]
        · refine rc_q I (res := .inr (jI (wd x h (290 + 81 * p + 29 + z2.toNat)))) ⟨h, ?_, Fr.rf⟩ (fun H J eH => ?_)
          · simp (disch := omega) only [f_X11_about, ckI_y I hp c2, ckT_y I hp hq, jL, jJ, jI_lt, jI_le, jI_eq, jI_nat, jBt, jBo, gi_, gl_, x_let, if_pos, if_neg, if_true, Option.bind_some, tvz, tvo, wd_j, and_self, true_and, and_true, Int.toNat_zero, Int.toNat_natCast, xb_v, xb_e, isb0, isb1, gil, gl2, wd_i, wd_l, cp, cr, sd]
          obtain ⟨H1, g1, g2, g4, g5, ew, e1, e3, ra, o6, e6, o5, os⟩ := rr H J eH
          refine ⟨_, H1, ?_, fr_0.tr (Fr.o1 g4 g5 (by decide)), by rw [g5]; rfl, by rw [g4 _ (by omega)]; exact gi_s, rfl⟩
          simp (disch := omega) only [f_X12_about, f_X12_in, jL, jJ, jI_lt, jI_le, jI_eq, jI_nat, jBt, jBo, gi_, gl_, x_let, if_pos, if_neg, if_true, Option.bind_some, tvz, tvo, and_self, true_and, and_true, Int.toNat_zero, Int.toNat_natCast, xb_v, xb_e, isb0, isb1, gil, gl2, wd_i, wd_l, e1, e3, o6, e6, t6, ra, g1, dv, os]
      · refine rc_q I (res := .inl 4) ⟨h, ?_, Fr.rf⟩ (fun H J eH => ⟨jI 0, x_i (x_i H (x + 64) 0 (jI 0)) (x + 64) 0 (jI 3), ?_, fr_t, rfl, 2, rfl, by decide, gi_s⟩)
        · have nz : ∀ k : Int, 0 ≤ k → k ≤ 7 → ¬ jI z3 = jI k := fun k k0 k1 e => c3 (by rw [(jI_eq (by omega) (by omega) (by omega) (by omega)).mp e]; exact ⟨k0, k1⟩)
          unfold f_X11_about
          rw [ckI_y I hp c2, xb_v, ckT_y I hp hq, xb_v, if_pos (jI_b (by omega) (by omega) (by omega)), nat_ (by omega), cp, Option.bind_some, cr, Option.bind_some, if_neg (show ¬ jI z3 = (0 : Int32) from nz 0 (by omega) (by omega)), if_neg (show ¬ jI z3 = (1 : Int32) from nz 1 (by omega) (by omega)), if_neg (show ¬ jI z3 = (2 : Int32) from nz 2 (by omega) (by omega)), if_neg (show ¬ jI z3 = (3 : Int32) from nz 3 (by omega) (by omega)), if_neg (show ¬ jI z3 = (4 : Int32) from nz 4 (by omega) (by omega)), if_neg (show ¬ jI z3 = (5 : Int32) from nz 5 (by omega) (by omega)), if_neg (show ¬ jI z3 = (6 : Int32) from nz 6 (by omega) (by omega)), if_neg (show ¬ jI z3 = (7 : Int32) from nz 7 (by omega) (by omega))]
        · have ew : wd x (x_i H (x + 64) 0 (jI 0)) = wd x h := by rw [wm0, eH]
          have e1 := ckI_ry J.m0 (p := p) (i := z2) (by rw [ew]; exact hp) (by rw [ew]; exact c2)
          have e3 := r_isp J.m0 (p := p) (by rw [ew]; exact hp)
          rw [ew, if_pos hq] at e3
          have ei : (if (f_X12_in (x_i H (x + 64) 0 (jI 0)) (jI z3) 0 7) = 0 then (1 : Int32) else 0) = jI 1 := by
            unfold f_X12_in
            by_cases c4 : z3 < 0
            · simp (disch := omega) only [jL, jJ, jI_lt, jI_le, jI_eq, jI_nat, jBt, jBo, gi_, gl_, x_let, if_pos, if_neg, if_true, Option.bind_some, tvz, tvo, wd_j, and_self, true_and, and_true, Int.toNat_zero, Int.toNat_natCast, xb_v, xb_e, isb0, isb1, gil, gl2, wd_i, wd_l]
            · simp (disch := omega) only [jL, jJ, jI_lt, jI_le, jI_eq, jI_nat, jBt, jBo, gi_, gl_, x_let, if_pos, if_neg, if_true, Option.bind_some, tvz, tvo, wd_j, and_self, true_and, and_true, Int.toNat_zero, Int.toNat_natCast, xb_v, xb_e, isb0, isb1, gil, gl2, wd_i, wd_l]
          unfold f_X12_about
          rw [xl_, show x_i H (x + 64) 0 (0 : Int32) = x_i H (x + 64) 0 (jI 0) from rfl, e1, Option.bind_some, tvz, Option.bind_some, if_pos (show jI 0 = (0 : Int32) from rfl), e3, Option.bind_some, if_neg (show ¬ jI 1 = (0 : Int32) by decide), show (0 : Int32) = jI 0 from rfl, tvz, Option.bind_some, if_pos (show jI 0 = jI 0 from rfl)]
          rw [show (if (f_X12_in (x_i H (x + 64) 0 (jI 0)) (jI z3) (jI 0) 7) = jI 0 then (1 : Int32) else jI 0) = jI 1 from ei, tvo, Option.bind_some, if_neg (show ¬ jI 1 = jI 0 by decide)]
          rfl
    · refine rc_q I (res := .inl 2) ⟨h, ?_, Fr.rf⟩ (fun H J eH => ⟨jI 0, x_i (x_i H (x + 64) 0 (jI 0)) (x + 64) 0 (jI 2), ?_, fr_t, rfl, 1, rfl, by decide, gi_s⟩)
      · unfold f_X11_about
        rw [ckI_y I hp c2, xb_v, ckT_n I hp hq, xb_e]
      · have ew : wd x (x_i H (x + 64) 0 (jI 0)) = wd x h := by rw [wm0, eH]
        have e1 := ckI_ry J.m0 (p := p) (i := z2) (by rw [ew]; exact hp) (by rw [ew]; exact c2)
        have e3 := r_isp J.m0 (p := p) (by rw [ew]; exact hp)
        rw [ew, if_neg hq] at e3
        unfold f_X12_about
        rw [xl_, show x_i H (x + 64) 0 (0 : Int32) = x_i H (x + 64) 0 (jI 0) from rfl, e1, Option.bind_some, tvz, Option.bind_some, if_pos (show jI 0 = (0 : Int32) from rfl), e3, Option.bind_some, if_pos (show jI 0 = (0 : Int32) from rfl), show (1 : Int32) = jI 1 from rfl, tvo, Option.bind_some, if_neg (show ¬ jI 1 = (0 : Int32) by decide)]
        rfl
  · refine rc_q I (res := .inl 0) ⟨h, ?_, Fr.rf⟩ (fun H J eH => ⟨jI 0, x_i (x_i H (x + 64) 0 (jI 0)) (x + 64) 0 (jI 1), ?_, fr_t, rfl, 0, rfl, by decide, gi_s⟩)
    · unfold f_X11_about
      rw [ckI_n I ⟨z1a, z1b⟩ ⟨z2a, z2b⟩ c, xb_e]
    · have ew : wd x (x_i H (x + 64) 0 (jI 0)) = wd x h := by rw [wm0, eH]
      have e1 := ckI_rn J.m0 ⟨z1a, z1b⟩ ⟨z2a, z2b⟩ (by rw [ew]; exact c)
      unfold f_X12_about
      rw [xl_, show x_i H (x + 64) 0 (0 : Int32) = x_i H (x + 64) 0 (jI 0) from rfl, e1, Option.bind_some, tvo, Option.bind_some, if_neg (show ¬ jI 1 = (0 : Int32) by decide)]
      rfl
