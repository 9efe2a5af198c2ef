/-! ===== holds, awaited, about ===== -/
theorem P_row14 {gh : Nat} {x : Nat} {K : XK} {h : XH} (I : Inv gh x K h) (a1 a2 a3 : Int32) : ∃ h', f_row14 K x h a1 a2 a3 = some h' ∧ Inv gh x K h' := by
  obtain ⟨z1, z1a, z1b, rfl⟩ := jI_ex a1
  obtain ⟨z2, z2a, z2b, rfl⟩ := jI_ex a2
  obtain ⟨z3, z3a, z3b, rfl⟩ := jI_ex a3
  have e0 : ∀ b1 b2 b3, f_row14 K x h b1 b2 b3 = rc_ x (x_lb (f_X11_holds K x h b1 b2 b3) [0, 2] (fun v h => x_l h (x + 76) (0 : Int32).toNatClampNeg v.toInt64)) (fun h => f_X12_holds x h b1 b2 b3) := fun _ _ _ => rfl
  rw [e0]
  have h1 := I.w1
  have h2 := I.w2
  by_cases cL : 0 ≤ z1 ∧ z1 < wd x h 2
  · obtain ⟨t, rfl⟩ : ∃ t : Nat, z1 = t := ⟨z1.toNat, by omega⟩
    have ht := cL.2
    by_cases c : (0 ≤ z2 ∧ z2 < wd x h 1) ∧ 0 ≤ z3 ∧ z3 < wd x h (290 + 81 * z2.toNat + 2)
    · obtain ⟨c1, c2⟩ := c
      obtain ⟨p, rfl⟩ : ∃ p : Nat, z2 = p := ⟨z2.toNat, by omega⟩
      rw [Int.toNat_natCast] at c2
      have hp := c1.2
      by_cases hq : 0 < wd x h (290 + 81 * p + 3)
      · obtain ⟨r, hr, ct⟩ := I.law ht
        obtain ⟨hh, g1, g2, g3⟩ := c_now I hp hq ct (I.wl ht) c2
        refine rc_q I (res := .inr (jI (hn_ (wd x h) t p (wd x h 6) z3))) ⟨hh, ?_, Fr.o2 g2 g3 (by decide) (by decide)⟩ (fun H J eH => ?_)
        · simp (disch := omega) only [f_X11_holds, ckL_y I cL, ckI_y I hp c2, ckT_y I hp hq, jL, jJ, jI_lt, jI_le, jI_eq, jI_nat, jBt, jBo, gi_, gl_, x_let, if_pos, if_neg, if_true, Option.bind_some, tvz, tvo, wd_j, and_self, true_and, and_true, Int.toNat_zero, Int.toNat_natCast, xb_v, xb_e, isb0, isb1, gil, gl2, wd_i, wd_l, hr, g1]
        · have ew : wd x (x_i H (x + 64) 0 (jI 0)) = wd x h := by rw [wm0, eH]
          have e1 := ckL_ry J.m0 (z := (t : Int)) (by rw [ew]; exact cL)
          have e2 := ckI_ry J.m0 (p := p) (i := z3) (by rw [ew]; exact hp) (by rw [ew]; exact c2)
          have e3 := r_isp J.m0 (p := p) (by rw [ew]; exact hp)
          rw [ew, if_pos hq] at e3
          have rn := r_now J.m0 (p := p) (t := t) (by rw [ew]; exact hp) (by rw [ew]; exact hq) (by rw [ew]; exact ht) (i := z3) (by rw [ew]; exact c2)
          rw [ew] at rn
          obtain ⟨H2, k1, k2, k3⟩ := rn
          refine ⟨_, H2, ?_, fr_0.tr (Fr.o2 k2 k3 (by decide) (by decide)), by rw [k3]; rfl, by rw [k2 _ (by omega) (by omega)]; exact gi_s, rfl⟩
          simp (disch := omega) only [f_X12_holds, jL, jJ, jI_lt, jI_le, jI_eq, jI_nat, jBt, jBo, gi_, gl_, x_let, if_pos, if_neg, if_true, Option.bind_some, tvz, tvo, wd_j, and_self, true_and, and_true, Int.toNat_zero, Int.toNat_natCast, xb_v, xb_e, isb0, isb1, gil, gl2, wd_i, wd_l, e1, e2, e3, k1]
      · refine rc_q I (res := .inl 2) ⟨h, ?_, Fr.rf⟩ (fun H J eH => ⟨jI 0, x_i (x_i H (x + 64) 0 (jI 0)) (x + 64) 0 (jI 2), ?_, fr_t, rfl, 1, rfl, by decide, gi_s⟩)
        · simp (disch := omega) only [f_X11_holds, ckL_y I cL, ckI_y I hp c2, ckT_n I hp hq, jL, jJ, jI_lt, jI_le, jI_eq, jI_nat, jBt, jBo, gi_, gl_, x_let, if_pos, if_neg, if_true, Option.bind_some, tvz, tvo, wd_j, and_self, true_and, and_true, Int.toNat_zero, Int.toNat_natCast, xb_v, xb_e, isb0, isb1, gil, gl2, wd_i, wd_l]
        · have ew : wd x (x_i H (x + 64) 0 (jI 0)) = wd x h := by rw [wm0, eH]
          have e1 := ckL_ry J.m0 (z := (t : Int)) (by rw [ew]; exact cL)
          have e2 := ckI_ry J.m0 (p := p) (i := z3) (by rw [ew]; exact hp) (by rw [ew]; exact c2)
          have e3 := r_isp J.m0 (p := p) (by rw [ew]; exact hp)
          rw [ew, if_neg hq] at e3
          simp (disch := omega) only [f_X12_holds, f_X12_holds_56, jL, jJ, jI_lt, jI_le, jI_eq, jI_nat, jBt, jBo, gi_, gl_, x_let, if_pos, if_neg, if_true, Option.bind_some, tvz, tvo, wd_j, and_self, true_and, and_true, Int.toNat_zero, Int.toNat_natCast, xb_v, xb_e, isb0, isb1, gil, gl2, wd_i, wd_l, e1, e2, e3]
    · refine rc_q I (res := .inl 0) ⟨h, ?_, Fr.rf⟩ (fun H J eH => ⟨jI 0, x_i (x_i H (x + 64) 0 (jI 0)) (x + 64) 0 (jI 1), ?_, fr_t, rfl, 0, rfl, by decide, gi_s⟩)
      · simp (disch := omega) only [f_X11_holds, ckL_y I cL, ckI_n I ⟨z2a, z2b⟩ ⟨z3a, z3b⟩ c, jL, jJ, jI_lt, jI_le, jI_eq, jI_nat, jBt, jBo, gi_, gl_, x_let, if_pos, if_neg, if_true, Option.bind_some, tvz, tvo, wd_j, and_self, true_and, and_true, Int.toNat_zero, Int.toNat_natCast, xb_v, xb_e, isb0, isb1, gil, gl2, wd_i, wd_l]
      · have ew : wd x (x_i H (x + 64) 0 (jI 0)) = wd x h := by rw [wm0, eH]
        have e1 := ckL_ry J.m0 (z := (t : Int)) (by rw [ew]; exact cL)
        have e2 := ckI_rn J.m0 ⟨z2a, z2b⟩ ⟨z3a, z3b⟩ (by rw [ew]; exact c)
        simp (disch := omega) only [f_X12_holds, f_X12_holds_56, jL, jJ, jI_lt, jI_le, jI_eq, jI_nat, jBt, jBo, gi_, gl_, x_let, if_pos, if_neg, if_true, Option.bind_some, tvz, tvo, wd_j, and_self, true_and, and_true, Int.toNat_zero, Int.toNat_natCast, xb_v, xb_e, isb0, isb1, gil, gl2, wd_i, wd_l, e1, e2]
  · refine rc_q I (res := .inl 0) ⟨h, ?_, Fr.rf⟩ (fun H J eH => ⟨jI 0, x_i (x_i H (x + 64) 0 (jI 0)) (x + 64) 0 (jI 1), ?_, fr_t, rfl, 0, rfl, by decide, gi_s⟩)
    · simp (disch := omega) only [f_X11_holds, ckL_n I ⟨z1a, z1b⟩ cL, jL, jJ, jI_lt, jI_le, jI_eq, jI_nat, jBt, jBo, gi_, gl_, x_let, if_pos, if_neg, if_true, Option.bind_some, tvz, tvo, wd_j, and_self, true_and, and_true, Int.toNat_zero, Int.toNat_natCast, xb_v, xb_e, isb0, isb1, gil, gl2, wd_i, wd_l]
    · have ew : wd x (x_i H (x + 64) 0 (jI 0)) = wd x h := by rw [wm0, eH]
      have e1 := ckL_rn J.m0 ⟨z1a, z1b⟩ (by rw [ew]; exact cL)
      simp (disch := omega) only [f_X12_holds, f_X12_holds_23, f_X12_holds_28, f_X12_holds_56, jL, jJ, jI_lt, jI_le, jI_eq, jI_nat, jBt, jBo, gi_, gl_, x_let, if_pos, if_neg, if_true, Option.bind_some, tvz, tvo, wd_j, and_self, true_and, and_true, Int.toNat_zero, Int.toNat_natCast, xb_v, xb_e, isb0, isb1, gil, gl2, wd_i, wd_l, e1]
theorem ckT_e {gh : Nat} {x : Nat} {K : XK} {h : XH} (I : Inv gh x K h) {z : Int} (rz : -2147483648 ≤ z ∧ z < 2147483648) (c : ¬ (0 ≤ z ∧ z < wd x h 1)) : f_X11_checkPut x h (jI z) = some (.inl 0, h) := by
  simp (disch := omega) only [f_X11_checkPut, ckP_n I rz c, jL, jJ, jI_lt, jI_le, jI_eq, jI_nat, jBt, jBo, gi_, gl_, x_let, if_pos, if_neg, if_true, Option.bind_some, tvz, tvo, wd_j, and_self, true_and, and_true, Int.toNat_zero, Int.toNat_natCast, xb_v, xb_e, isb0, isb1, gil, gl2, wd_i, wd_l]
theorem P_row15 {gh : Nat} {x : Nat} {K : XK} {h : XH} (I : Inv gh x K h) (a1 a2 : Int32) : ∃ h', f_row15 K x h a1 a2 = some h' ∧ Inv gh x K h' := by
  obtain ⟨z1, z1a, z1b, rfl⟩ := jI_ex a1
  obtain ⟨z2, z2a, z2b, rfl⟩ := jI_ex a2
  have e0 : ∀ b1 b2, f_row15 K x h b1 b2 = rc_ x (x_lb (f_X11_awaited K x h b1 b2) [0, 2] (fun v h => x_l h (x + 76) (0 : Int32).toNatClampNeg v.toInt64)) (fun h => f_X12_awaited x h b1 b2) := fun _ _ => rfl
  rw [e0]
  have h1 := I.w1
  have h2 := I.w2
  have h6 := I.w6
  have e7 := I.2.1.1.2.2.2.1
  by_cases cL : 0 ≤ z1 ∧ z1 < wd x h 2
  · obtain ⟨t, rfl⟩ : ∃ t : Nat, z1 = t := ⟨z1.toNat, by omega⟩
    have ht := cL.2
    by_cases c : 0 ≤ z2 ∧ z2 < wd x h 1
    · obtain ⟨p, rfl⟩ : ∃ p : Nat, z2 = p := ⟨z2.toNat, by omega⟩
      have hp := c.2
      by_cases hq : 0 < wd x h (290 + 81 * p + 3)
      · obtain ⟨r, hr, ct⟩ := I.law ht
        obtain ⟨hh, g1, g2, g3⟩ := c_sumAt I hp hq ct (I.wl ht) (ck := wd x h 6) (by omega)
        refine rc_q I (res := .inr (jI (aw_ (wd x h) t p (wd x h 6)))) ⟨hh, ?_, Fr.o2 g2 g3 (by decide) (by decide)⟩ (fun H J eH => ?_)
        · simp (disch := omega) only [f_X11_awaited, ckL_y I cL, ckT_y I hp hq, jL, jJ, jI_lt, jI_le, jI_eq, jI_nat, jBt, jBo, gi_, gl_, x_let, if_pos, if_neg, if_true, Option.bind_some, tvz, tvo, wd_j, and_self, true_and, and_true, Int.toNat_zero, Int.toNat_natCast, xb_v, xb_e, isb0, isb1, gil, gl2, wd_i, wd_l, hr, e7, g1]
        · have ew : wd x (x_i H (x + 64) 0 (jI 0)) = wd x h := by rw [wm0, eH]
          have e1 := ckL_ry J.m0 (z := (t : Int)) (by rw [ew]; exact cL)
          have e2 := ckP_ry J.m0 (z := (p : Int)) (by rw [ew]; exact c)
          have e3 := r_isp J.m0 (p := p) (by rw [ew]; exact hp)
          rw [ew, if_pos hq] at e3
          have rn := r_sumAt J.m0 (p := p) (t := t) (by rw [ew]; exact hp) (by rw [ew]; exact hq) (by rw [ew]; exact ht) (s := 0) (by omega)
          rw [ew, Int.add_zero] at rn
          obtain ⟨H2, k1, k2, k3⟩ := rn
          refine ⟨_, H2, ?_, fr_0.tr (Fr.o2 k2 k3 (by decide) (by decide)), by rw [k3]; rfl, by rw [k2 _ (by omega) (by omega)]; exact gi_s, rfl⟩
          simp (disch := omega) only [f_X12_awaited, jL, jJ, jI_lt, jI_le, jI_eq, jI_nat, jBt, jBo, gi_, gl_, x_let, if_pos, if_neg, if_true, Option.bind_some, tvz, tvo, wd_j, and_self, true_and, and_true, Int.toNat_zero, Int.toNat_natCast, xb_v, xb_e, isb0, isb1, gil, gl2, wd_i, wd_l, e1, e2, e3, k1]
      · refine rc_q I (res := .inl 2) ⟨h, ?_, Fr.rf⟩ (fun H J eH => ⟨jI 0, x_i (x_i H (x + 64) 0 (jI 0)) (x + 64) 0 (jI 2), ?_, fr_t, rfl, 1, rfl, by decide, gi_s⟩)
        · simp (disch := omega) only [f_X11_awaited, ckL_y I cL, ckT_n I hp hq, jL, jJ, jI_lt, jI_le, jI_eq, jI_nat, jBt, jBo, gi_, gl_, x_let, if_pos, if_neg, if_true, Option.bind_some, tvz, tvo, wd_j, and_self, true_and, and_true, Int.toNat_zero, Int.toNat_natCast, xb_v, xb_e, isb0, isb1, gil, gl2, wd_i, wd_l]
        · have ew : wd x (x_i H (x + 64) 0 (jI 0)) = wd x h := by rw [wm0, eH]
          have e1 := ckL_ry J.m0 (z := (t : Int)) (by rw [ew]; exact cL)
          have e2 := ckP_ry J.m0 (z := (p : Int)) (by rw [ew]; exact c)
          have e3 := r_isp J.m0 (p := p) (by rw [ew]; exact hp)
          rw [ew, if_neg hq] at e3
          simp (disch := omega) only [f_X12_awaited, f_X12_awaited_55, jL, jJ, jI_lt, jI_le, jI_eq, jI_nat, jBt, jBo, gi_, gl_, x_let, if_pos, if_neg, if_true, Option.bind_some, tvz, tvo, wd_j, and_self, true_and, and_true, Int.toNat_zero, Int.toNat_natCast, xb_v, xb_e, isb0, isb1, gil, gl2, wd_i, wd_l, e1, e2, e3]
    · refine rc_q I (res := .inl 0) ⟨h, ?_, Fr.rf⟩ (fun H J eH => ⟨jI 0, x_i (x_i H (x + 64) 0 (jI 0)) (x + 64) 0 (jI 1), ?_, fr_t, rfl, 0, rfl, by decide, gi_s⟩)
      · simp (disch := omega) only [f_X11_awaited, ckL_y I cL, ckT_e I ⟨z2a, z2b⟩ c, jL, jJ, jI_lt, jI_le, jI_eq, jI_nat, jBt, jBo, gi_, gl_, x_let, if_pos, if_neg, if_true, Option.bind_some, tvz, tvo, wd_j, and_self, true_and, and_true, Int.toNat_zero, Int.toNat_natCast, xb_v, xb_e, isb0, isb1, gil, gl2, wd_i, wd_l]
      · have ew : wd x (x_i H (x + 64) 0 (jI 0)) = wd x h := by rw [wm0, eH]
        have e1 := ckL_ry J.m0 (z := (t : Int)) (by rw [ew]; exact cL)
        have e2 := ckP_rn J.m0 ⟨z2a, z2b⟩ (by rw [ew]; exact c)
        simp (disch := omega) only [f_X12_awaited, f_X12_awaited_55, jL, jJ, jI_lt, jI_le, jI_eq, jI_nat, jBt, jBo, gi_, gl_, x_let, if_pos, if_neg, if_true, Option.bind_some, tvz, tvo, wd_j, and_self, true_and, and_true, Int.toNat_zero, Int.toNat_natCast, xb_v, xb_e, isb0, isb1, gil, gl2, wd_i, wd_l, e1, e2]
  · refine rc_q I (res := .inl 0) ⟨h, ?_, Fr.rf⟩ (fun H J eH => ⟨jI 0, x_i (x_i H (x + 64) 0 (jI 0)) (x + 64) 0 (jI 1), ?_, fr_t, rfl, 0, rfl, by decide, gi_s⟩)
    · simp (disch := omega) only [f_X11_awaited, ckL_n I ⟨z1a, z1b⟩ cL, jL, jJ, jI_lt, jI_le, jI_eq, jI_nat, jBt, jBo, gi_, gl_, x_let, if_pos, if_neg, if_true, Option.bind_some, tvz, tvo, wd_j, and_self, true_and, and_true, Int.toNat_zero, Int.toNat_natCast, xb_v, xb_e, isb0, isb1, gil, gl2, wd_i, wd_l]
    · have ew : wd x (x_i H (x + 64) 0 (jI 0)) = wd x h := by rw [wm0, eH]
      have e1 := ckL_rn J.m0 ⟨z1a, z1b⟩ (by rw [ew]; exact cL)
      simp (disch := omega) only [f_X12_awaited, f_X12_awaited_22, f_X12_awaited_27, f_X12_awaited_55, jL, jJ, jI_lt, jI_le, jI_eq, jI_nat, jBt, jBo, gi_, gl_, x_let, if_pos, if_neg, if_true, Option.bind_some, tvz, tvo, wd_j, and_self, true_and, and_true, Int.toNat_zero, Int.toNat_natCast, xb_v, xb_e, isb0, isb1, gil, gl2, wd_i, wd_l, e1]
