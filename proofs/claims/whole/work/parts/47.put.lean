/-- put -/
theorem P_row10 {x : Nat} {K : XK} {h : XH} (I : Inv x K h) (a1 a2 a3 a4 a5 : Int32) : ∃ h', f_row10 x h a1 a2 a3 a4 a5 = some h' ∧ Inv x K h' := by
  obtain ⟨⟨w1, w2, w3, w4, w5, w6, w7, w8, w9, w10, w11, w12, w13, w14, w15, w16⟩, -⟩ := id I.1
  obtain ⟨⟨e1, e4, e6, e7, e8, e10, e12, e15⟩, -⟩ := id I.2.1
  obtain ⟨z1, z1a, z1b, rfl⟩ := jI_ex a1
  obtain ⟨z2, z2a, z2b, rfl⟩ := jI_ex a2
  obtain ⟨z3, z3a, z3b, rfl⟩ := jI_ex a3
  obtain ⟨z4, z4a, z4b, rfl⟩ := jI_ex a4
  obtain ⟨z5, z5a, z5b, rfl⟩ := jI_ex a5
  have e0 : ∀ b1 b2 b3 b4 b5, f_row10 x h b1 b2 b3 b4 b5 = rc_ x (x_lb (f_X11_put x h b1 b2 b3 b4 b5) [0, 2, 1] (fun v h => x_l h (x + 76) (0 : Int32).toNatClampNeg v.toInt64)) (fun h => f_X12_put x h b1 b2 b3 b4 b5) := fun _ _ _ _ _ => rfl
  rw [e0]
  have h1 := I.w1
  have h0 := I.w0
  have t6 : (6 : Int).toNat = 6 := rfl
  have t7 : (7 : Int).toNat = 7 := rfl
  have ew : wd x (x_i h (x + 64) 0 (jI 0)) = wd x h := wm0
  by_cases c : 0 ≤ z1 ∧ z1 < wd x h 1
  · obtain ⟨p, rfl⟩ : ∃ p : Nat, z1 = p := ⟨z1.toNat, by omega⟩
    have hp := c.2
    have en := fun H eH => rq_noP (H := H) I eH c
    by_cases cd : (0 ≤ z2 ∧ z2 < wd x h 0) ∧ 0 ≤ z3 ∧ z3 < wd x h (164 + 21 * z2.toNat)
    · obtain ⟨cd1, cd2⟩ := cd
      have h20 := I.dr cd1
      have ed := fun H eH => rq_noD (H := H) I eH cd1 cd2
      have cdy := ckD_y I cd1 cd2
      have cpy := ckP_y I c
      obtain ⟨p1, p2, p3, p4, p5, p6, p7, p8, p9, p10, p11, p12, p13, -⟩ := I.wp hp
      obtain ⟨k1, k2, k3, k4, k5, -⟩ := I.pk hp
      have ei := fun H eH => rq_isp (H := H) I eH hp
      by_cases hq : 0 < wd x h (290 + 81 * p + 3)
      · rw [if_pos hq] at k4
        simp only [if_pos hq] at ei
        refine ⟨x_i (x_i h (x + 64) 0 (jI 0)) (x + 64) 0 (jI 2), rc_e (r := jI 0) (h1 := h) (e := 2) (j := 1) ?_ rfl (by decide) ?_ ?_, I.fr fr_t⟩
        · simp (disch := omega) only [f_X11_put, jL, jJ, jI_lt, jI_le, jI_eq, jI_nat, jBt, jBo, gi_, gl_, x_let, if_pos, if_neg, if_true, Option.bind_some, tvz, tvo, wd_j, and_self, true_and, and_true, Int.toNat_zero, Int.toNat_natCast, xb_v, xb_e, isb0, isb1, gil, gl2, wd_i, wd_l, cpy, cdy, k4]
        · simp (disch := omega) only [f_X12_put, f_X12_put_48, jL, jJ, jI_lt, jI_le, jI_eq, jI_nat, jBt, jBo, gl_, x_let, if_pos, if_neg, if_true, Option.bind_some, tvz, tvo, and_self, true_and, and_true, Int.toNat_zero, Int.toNat_natCast, xb_v, xb_e, isb0, isb1, gil, gl2, wd_i, wd_l, en _ ew, ed _ ew, ei _ ew]
        · simp (disch := omega) only [gi_n, gi_s]; rfl
      · rw [if_neg hq] at k4
        simp only [if_neg hq] at ei
        have o2 := fun H (eH : wd x H = wd x h) => (of_2 (x := x) (h := H) (p := p) (by omega)).trans (by rw [eH])
        by_cases d : 1 ≤ z4 ∧ z4 ≤ 3
        · by_cases f : 1 ≤ z5 ∧ z5 ≤ 60
          · have hb := pl_b p7 p8 d.1 d.2
            have hpl := c_pby I hp d.1 d.2
            have hpf := fun H => r_pf (h := H) p7 p8 d.1 d.2
            have edr := fun H eH => rq_drs (H := H) I eH cd1
            have cdr := c_drs I cd1
            have e6' : ∀ H : XH, wd x H = wd x h → H.1 (x + 65) 6 = jI (wd x h 6) := fun H eH => by rw [wd_j, eH]
            have e7' : ∀ H : XH, wd x H = wd x h → H.1 (x + 65) 7 = jI (wd x h 7) := fun H eH => by rw [wd_j, eH]
            generalize hP : pl_ (wd x h (290 + 81 * p + 2)) z4 = P at hb hpl hpf
            have hps : 0 ≤ P * z5 ∧ P * z5 ≤ 52 * 60 := ⟨Int.mul_nonneg (by omega) (by omega), Int.mul_le_mul (by omega) (by omega) (by omega) (by omega)⟩
            by_cases g1 : z3 + P ≤ wd x h (164 + 21 * z2.toNat)
            · by_cases g2 : wd x h 6 + P * z5 ≤ 1000000
              · have eC : f_X11_put x h (jI p) (jI z2) (jI z3) (jI z4) (jI z5) = some (.inr (jI P), x_i (x_i (x_i (x_i (x_i (x_i (x_i (x_i (x_i (x_i (x_i h (x + 13 + 6 + 3 * p) 3 (jI 1)) (x + 13 + 6 + 3 * p + 1) 0 (jI (z2))) (x + 13 + 6 + 3 * p + 1) 1 (jI (z3))) (x + 13 + 6 + 3 * p + 1) 2 (jI (z4))) (x + 13 + 6 + 3 * p + 1) 3 (jI (z5))) (x + 13 + 6 + 3 * p + 1) 4 (jI (0))) (x + 13 + 6 + 3 * p + 1) 7 (jI (wd x h 7))) (x + 13 + 6 + 3 * p + 1) 5 (jI (wd x h 6))) (x + 13 + 6 + 3 * p + 1) 6 (jI (z5))) (x + 9) 6 (jI (wd x h 7 + 1))) (x + 9) 7 (jI (wd x h 6 + P * z5))) := by
                  simp (disch := omega) only [f_X11_put, f_X11_checkPer, f_X11_checkSeconds, f_X11_checkClock, f_X4_begin, f_X4_touchFrom, jL, jJ, jI_lt, jI_le, jI_eq, jI_nat, jBt, jBo, gi_, gl_, x_let, if_pos, if_neg, if_true, Option.bind_some, tvz, tvo, wd_j, and_self, true_and, and_true, Int.toNat_zero, Int.toNat_natCast, xb_v, xb_e, isb0, isb1, gil, gl2, wd_i, wd_l, cpy, cdy, k4, hpl, cdr, e6, e7]
                have eR : ∀ H : XH, wd x H = wd x h → f_X12_put x H (jI p) (jI z2) (jI z3) (jI z4) (jI z5) = some (jI P, x_i (wr_ (x + 65) (290 + 81 * p + 9) (fun k => wd x h 6 + k * z5) (P).toNat (x_i (x_i (x_i (x_i (x_i (x_i (x_i (H) (x + 64) 0 (jI 0)) (x + 65) 7 (jI (wd x h 7 + 1))) (x + 65) (290 + 81 * p + 3) (jI (wd x h 7 + 1))) (x + 65) (290 + 81 * p + 4) (jI (z2))) (x + 65) (290 + 81 * p + 5) (jI (z3))) (x + 65) (290 + 81 * p + 6) (jI (z4))) (x + 65) (290 + 81 * p + 7) (jI (z5)))) (x + 65) 6 (jI (wd x h 6 + P * z5))) := fun H eH => by
                  have eW : wd x (x_i H (x + 64) 0 (jI 0)) = wd x h := by rw [wm0, eH]
                  have et := r_touch (x := x) (H := x_i (x_i (x_i (x_i (x_i (x_i (x_i (H) (x + 64) 0 (jI 0)) (x + 65) 7 (jI (wd x h 7 + 1))) (x + 65) (290 + 81 * p + 3) (jI (wd x h 7 + 1))) (x + 65) (290 + 81 * p + 4) (jI (z2))) (x + 65) (290 + 81 * p + 5) (jI (z3))) (x + 65) (290 + 81 * p + 6) (jI (z4))) (x + 65) (290 + 81 * p + 7) (jI (z5))) (p := p) (n := wd x h (290 + 81 * p + 2)) (per := z4) (c := wd x h 6) (s := z5) (by omega) (by rw [wd_s _ (by omega) (by omega), if_neg (by omega), wd_s _ (by omega) (by omega), if_neg (by omega), wd_s _ (by omega) (by omega), if_neg (by omega), wd_s _ (by omega) (by omega), if_neg (by omega), wd_s _ (by omega) (by omega), if_neg (by omega), wd_s _ (by omega) (by omega), if_neg (by omega), eW]) (by rw [wd_s _ (by omega) (by omega), if_neg (by omega), wd_s _ (by omega) (by omega), if_pos rfl]) p7 p8 d.1 d.2 (by rw [wd_s _ (by omega) (by omega), if_neg (by omega), wd_s _ (by omega) (by omega), if_neg (by omega), wd_s _ (by omega) (by omega), if_neg (by omega), wd_s _ (by omega) (by omega), if_neg (by omega), wd_s _ (by omega) (by omega), if_neg (by omega), wd_s _ (by omega) (by omega), if_neg (by omega), eW])
                  rw [hP] at et
                  have s3 := fun H v => rq_set (x := x) (H := H) (p := p) (j := 3) (v := v) (by omega) (by omega)
                  have s4 := fun H v => rq_set (x := x) (H := H) (p := p) (j := 4) (v := v) (by omega) (by omega)
                  have s5 := fun H v => rq_set (x := x) (H := H) (p := p) (j := 5) (v := v) (by omega) (by omega)
                  have s6 := fun H v => rq_set (x := x) (H := H) (p := p) (j := 6) (v := v) (by omega) (by omega)
                  have s7 := fun H v => rq_set (x := x) (H := H) (p := p) (j := 7) (v := v) (by omega) (by omega)
                  rw [show (3 : Int).toNat = 3 from rfl] at s3
                  rw [show (4 : Int).toNat = 4 from rfl] at s4
                  rw [show (5 : Int).toNat = 5 from rfl] at s5
                  rw [show (6 : Int).toNat = 6 from rfl] at s6
                  rw [show (7 : Int).toNat = 7 from rfl] at s7
                  have e6'' := e6' _ eW
                  have e7'' := e7' _ eW
                  simp (disch := omega) only [f_X12_put, f_X12_put_95, f_X12_noSeconds, f_X12_in, jL, jJ, jI_lt, jI_le, jI_eq, jI_nat, jBt, jBo, gl_, x_let, if_pos, if_neg, if_true, Option.bind_some, tvz, tvo, and_self, true_and, and_true, Int.toNat_zero, Int.toNat_natCast, xb_v, xb_e, isb0, isb1, gil, gl2, wd_i, wd_l, en _ eW, ed _ eW, ei _ eW, o2 _ eW, hpf, edr _ eW, e6'', e7'', t6, t7, gi_s, s3, s4, s5, s6, s7, et]
                refine ⟨_, rc_v eC (eR _ (by funext k; rw [wd_l]; simp (disch := omega) only [wd_i])) (by rw [gi_n (by omega), wr_n (by omega)]; simp (disch := omega) only [gi_n, gi_s]; rfl) (by rw [gi_2, wr_2]; rfl), ?_⟩
                exact I.pt hp hq rfl rfl hP d cd1 ⟨cd2.1, g1⟩ f g2
              · refine ⟨x_i (x_i h (x + 64) 0 (jI 0)) (x + 64) 0 (jI 3), rc_e (r := jI 0) (h1 := h) (e := 1) (j := 2) ?_ rfl (by decide) ?_ ?_, I.fr fr_t⟩
                · simp (disch := omega) only [f_X11_put, f_X11_checkPer, f_X11_checkSeconds, f_X11_checkClock, jL, jJ, jI_lt, jI_le, jI_eq, jI_nat, jBt, jBo, gi_, gl_, x_let, if_pos, if_neg, if_true, Option.bind_some, tvz, tvo, wd_j, and_self, true_and, and_true, Int.toNat_zero, Int.toNat_natCast, xb_v, xb_e, isb0, isb1, gil, gl2, wd_i, wd_l, cpy, cdy, k4, hpl, cdr, e7]
                · have e6'' := e6' _ ew
                  simp (disch := omega) only [f_X12_put, f_X12_put_95, f_X12_noSeconds, f_X12_in, jL, jJ, jI_lt, jI_le, jI_eq, jI_nat, jBt, jBo, gl_, x_let, if_pos, if_neg, if_true, Option.bind_some, tvz, tvo, and_self, true_and, and_true, Int.toNat_zero, Int.toNat_natCast, xb_v, xb_e, isb0, isb1, gil, gl2, wd_i, wd_l, en _ ew, ed _ ew, ei _ ew, o2 _ ew, hpf, edr _ ew, e6'', t6]
                · simp (disch := omega) only [gi_n, gi_s]; rfl
            · refine ⟨x_i (x_i h (x + 64) 0 (jI 0)) (x + 64) 0 (jI 3), rc_e (r := jI 0) (h1 := h) (e := 1) (j := 2) ?_ rfl (by decide) ?_ ?_, I.fr fr_t⟩
              · simp (disch := omega) only [f_X11_put, f_X11_checkPer, f_X11_checkSeconds, f_X11_checkClock, jL, jJ, jI_lt, jI_le, jI_eq, jI_nat, jBt, jBo, gi_, gl_, x_let, if_pos, if_neg, if_true, Option.bind_some, tvz, tvo, wd_j, and_self, true_and, and_true, Int.toNat_zero, Int.toNat_natCast, xb_v, xb_e, isb0, isb1, gil, gl2, wd_i, wd_l, cpy, cdy, k4, hpl, cdr]
              · simp (disch := omega) only [f_X12_put, f_X12_put_95, f_X12_put_134, f_X12_put_139, f_X12_noSeconds, f_X12_in, jL, jJ, jI_lt, jI_le, jI_eq, jI_nat, jBt, jBo, gl_, x_let, if_pos, if_neg, if_true, Option.bind_some, tvz, tvo, and_self, true_and, and_true, Int.toNat_zero, Int.toNat_natCast, xb_v, xb_e, isb0, isb1, gil, gl2, wd_i, wd_l, en _ ew, ed _ ew, ei _ ew, o2 _ ew, hpf, edr _ ew]
              · simp (disch := omega) only [gi_n, gi_s]; rfl
          · refine ⟨x_i (x_i h (x + 64) 0 (jI 0)) (x + 64) 0 (jI 3), rc_e (r := jI 0) (h1 := h) (e := 1) (j := 2) ?_ rfl (by decide) ?_ ?_, I.fr fr_t⟩
            · by_cases d1 : z5 < 1
              · simp (disch := omega) only [f_X11_put, f_X11_checkPer, f_X11_checkSeconds, f_X11_checkSeconds_11, jL, jJ, jI_lt, jI_le, jI_eq, jI_nat, jBt, jBo, gi_, gl_, x_let, if_pos, if_neg, if_true, Option.bind_some, tvz, tvo, wd_j, and_self, true_and, and_true, Int.toNat_zero, Int.toNat_natCast, xb_v, xb_e, isb0, isb1, gil, gl2, wd_i, wd_l, cpy, cdy, k4]
              · simp (disch := omega) only [f_X11_put, f_X11_checkPer, f_X11_checkSeconds, f_X11_checkSeconds_11, jL, jJ, jI_lt, jI_le, jI_eq, jI_nat, jBt, jBo, gi_, gl_, x_let, if_pos, if_neg, if_true, Option.bind_some, tvz, tvo, wd_j, and_self, true_and, and_true, Int.toNat_zero, Int.toNat_natCast, xb_v, xb_e, isb0, isb1, gil, gl2, wd_i, wd_l, cpy, cdy, k4]
            · by_cases d1 : z5 < 1
              · simp (disch := omega) only [f_X12_put, f_X12_put_95, f_X12_put_134, f_X12_put_139, f_X12_noSeconds, f_X12_in, jL, jJ, jI_lt, jI_le, jI_eq, jI_nat, jBt, jBo, gl_, x_let, if_pos, if_neg, if_true, Option.bind_some, tvz, tvo, and_self, true_and, and_true, Int.toNat_zero, Int.toNat_natCast, xb_v, xb_e, isb0, isb1, gil, gl2, wd_i, wd_l, en _ ew, ed _ ew, ei _ ew]
              · simp (disch := omega) only [f_X12_put, f_X12_put_95, f_X12_put_134, f_X12_put_139, f_X12_noSeconds, f_X12_in, jL, jJ, jI_lt, jI_le, jI_eq, jI_nat, jBt, jBo, gl_, x_let, if_pos, if_neg, if_true, Option.bind_some, tvz, tvo, and_self, true_and, and_true, Int.toNat_zero, Int.toNat_natCast, xb_v, xb_e, isb0, isb1, gil, gl2, wd_i, wd_l, en _ ew, ed _ ew, ei _ ew]
            · simp (disch := omega) only [gi_n, gi_s]; rfl
        · refine ⟨x_i (x_i h (x + 64) 0 (jI 0)) (x + 64) 0 (jI 3), rc_e (r := jI 0) (h1 := h) (e := 1) (j := 2) ?_ rfl (by decide) ?_ ?_, I.fr fr_t⟩
          · by_cases d1 : z4 < 1
            · simp (disch := omega) only [f_X11_put, f_X11_checkPer, f_X11_checkPer_10, jL, jJ, jI_lt, jI_le, jI_eq, jI_nat, jBt, jBo, gi_, gl_, x_let, if_pos, if_neg, if_true, Option.bind_some, tvz, tvo, wd_j, and_self, true_and, and_true, Int.toNat_zero, Int.toNat_natCast, xb_v, xb_e, isb0, isb1, gil, gl2, wd_i, wd_l, cpy, cdy, k4]
            · simp (disch := omega) only [f_X11_put, f_X11_checkPer, f_X11_checkPer_10, jL, jJ, jI_lt, jI_le, jI_eq, jI_nat, jBt, jBo, gi_, gl_, x_let, if_pos, if_neg, if_true, Option.bind_some, tvz, tvo, wd_j, and_self, true_and, and_true, Int.toNat_zero, Int.toNat_natCast, xb_v, xb_e, isb0, isb1, gil, gl2, wd_i, wd_l, cpy, cdy, k4]
          · by_cases d1 : z4 < 1
            · simp (disch := omega) only [f_X12_put, f_X12_put_95, f_X12_put_134, f_X12_put_139, f_X12_noSeconds, f_X12_in, jL, jJ, jI_lt, jI_le, jI_eq, jI_nat, jBt, jBo, gl_, x_let, if_pos, if_neg, if_true, Option.bind_some, tvz, tvo, and_self, true_and, and_true, Int.toNat_zero, Int.toNat_natCast, xb_v, xb_e, isb0, isb1, gil, gl2, wd_i, wd_l, en _ ew, ed _ ew, ei _ ew]
            · simp (disch := omega) only [f_X12_put, f_X12_put_95, f_X12_put_134, f_X12_put_139, f_X12_noSeconds, f_X12_in, jL, jJ, jI_lt, jI_le, jI_eq, jI_nat, jBt, jBo, gl_, x_let, if_pos, if_neg, if_true, Option.bind_some, tvz, tvo, and_self, true_and, and_true, Int.toNat_zero, Int.toNat_natCast, xb_v, xb_e, isb0, isb1, gil, gl2, wd_i, wd_l, en _ ew, ed _ ew, ei _ ew]
          · simp (disch := omega) only [gi_n, gi_s]; rfl
    · refine ⟨x_i (x_i h (x + 64) 0 (jI 0)) (x + 64) 0 (jI 1), rc_e (r := jI 0) (h1 := h) (e := 0) (j := 0) ?_ rfl (by decide) ?_ ?_, I.fr fr_t⟩
      · simp (disch := omega) only [f_X11_put, jL, jJ, jI_lt, jI_le, jI_eq, jI_nat, jBt, jBo, gi_, gl_, x_let, if_pos, if_neg, if_true, Option.bind_some, tvz, tvo, wd_j, and_self, true_and, and_true, Int.toNat_zero, Int.toNat_natCast, xb_v, xb_e, isb0, isb1, gil, gl2, wd_i, wd_l, ckP_y I c, ckD_n I ⟨z2a, z2b⟩ ⟨z3a, z3b⟩ cd]
      · have rn := ckD_rn I.m0 ⟨z2a, z2b⟩ ⟨z3a, z3b⟩ (by rw [wm0]; exact cd)
        simp (disch := omega) only [f_X12_put, f_X12_put_48, jL, jJ, jI_lt, jI_le, jI_eq, jI_nat, jBt, jBo, gl_, x_let, if_pos, if_neg, if_true, Option.bind_some, tvz, tvo, and_self, true_and, and_true, Int.toNat_zero, Int.toNat_natCast, xb_v, xb_e, isb0, isb1, gil, gl2, wd_i, wd_l, en _ ew, rn]
      · simp (disch := omega) only [gi_n, gi_s]; rfl
  · refine ⟨x_i (x_i h (x + 64) 0 (jI 0)) (x + 64) 0 (jI 1), rc_e (r := jI 0) (h1 := h) (e := 0) (j := 0) ?_ rfl (by decide) ?_ ?_, I.fr fr_t⟩
    · simp (disch := omega) only [f_X11_put, jL, jJ, jI_lt, jI_le, jI_eq, jI_nat, jBt, jBo, gi_, gl_, x_let, if_pos, if_neg, if_true, Option.bind_some, tvz, tvo, wd_j, and_self, true_and, and_true, Int.toNat_zero, Int.toNat_natCast, xb_v, xb_e, isb0, isb1, gil, gl2, wd_i, wd_l, ckP_n I ⟨z1a, z1b⟩ c]
    · have rn := ckP_rn I.m0 ⟨z1a, z1b⟩ (by rw [wm0]; exact c)
      simp (disch := omega) only [f_X12_put, f_X12_put_23, f_X12_put_28, f_X12_put_48, jL, jJ, jI_lt, jI_le, jI_eq, jI_nat, jBt, jBo, gl_, x_let, if_pos, if_neg, if_true, Option.bind_some, tvz, tvo, and_self, true_and, and_true, Int.toNat_zero, Int.toNat_natCast, xb_v, xb_e, isb0, isb1, gil, gl2, wd_i, wd_l, rn]
    · simp (disch := omega) only [gi_n, gi_s]; rfl
