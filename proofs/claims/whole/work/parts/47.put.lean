theorem c_put {gh : Nat} {x : Nat} {K : XK} {h : XH} (I : Inv gh x K h) {p : Nat} {z2 z3 z4 z5 P : Int} (hp : (p : Int) < wd x h 1) (hq : ¬ 0 < wd x h (290 + 81 * p + 3)) (cd1 : 0 ≤ z2 ∧ z2 < wd x h 0) (cd2 : 0 ≤ z3 ∧ z3 < wd x h (164 + 21 * z2.toNat)) (d : 1 ≤ z4 ∧ z4 ≤ 3) (f : 1 ≤ z5 ∧ z5 ≤ 60) (hP : pl_ (wd x h (290 + 81 * p + 2)) z4 = P) (g1 : z3 + P ≤ wd x h (164 + 21 * z2.toNat)) (g2 : wd x h 6 + P * z5 ≤ 1000000) : f_X11_put x h (jI p) (jI z2) (jI z3) (jI z4) (jI z5) = some (.inr (jI P), x_i (x_i (x_i (x_i (x_i (x_i (x_i (x_i (x_i (x_i (x_i h (x + 13 + 6 + 3 * p) 3 (jI 1)) (x + 13 + 6 + 3 * p + 1) 0 (jI (z2))) (x + 13 + 6 + 3 * p + 1) 1 (jI (z3))) (x + 13 + 6 + 3 * p + 1) 2 (jI (z4))) (x + 13 + 6 + 3 * p + 1) 3 (jI (z5))) (x + 13 + 6 + 3 * p + 1) 4 (jI (0))) (x + 13 + 6 + 3 * p + 1) 7 (jI (wd x h 7))) (x + 13 + 6 + 3 * p + 1) 5 (jI (wd x h 6))) (x + 13 + 6 + 3 * p + 1) 6 (jI (z5))) (x + 9) 6 (jI (wd x h 7 + 1))) (x + 9) 7 (jI (wd x h 6 + P * z5))) := by
  obtain ⟨⟨w1, w2, w3, w4, w5, w6, w7, w8, w9, w10, w11, w12, w13, w14, w15, w16⟩, -⟩ := id I.1
  obtain ⟨⟨e1, e4, e6, e7, e8, e10, e12, e15⟩, -⟩ := id I.2.1
  have h20 := I.dr cd1
  obtain ⟨p1, p2, p3, p4, p5, p6, p7, p8, p9, p10, p11, p12, p13, -⟩ := I.wp hp
  obtain ⟨k1, k2, k3, k4, k5, -⟩ := I.pk hp
  rw [if_neg hq] at k4
  have hb := pl_b p7 p8 d.1 d.2
  have cdy := ckD_y I cd1 cd2
  have cpy := ckP_y I (z := p) ⟨by omega, hp⟩
  have hpl := c_pby I hp d.1 d.2
  have cdr := c_drs I cd1
  rw [hP] at hb hpl
  have hps : 0 ≤ P * z5 ∧ P * z5 ≤ 52 * 60 := ⟨Int.mul_nonneg (by omega) (by omega), Int.mul_le_mul (by omega) (by omega) (by omega) (by omega)⟩
  have q1 : f_X11_checkPer x h (jI z4) = some (.inr (), h) := by
    simp (disch := omega) only [f_X11_checkPer, jL, jJ, jI_lt, jI_le, jI_eq, jI_nat, jBt, jBo, gl_, x_let, if_pos, if_neg, if_true, Option.bind_some, tvz, tvo, and_self, true_and, and_true, Int.toNat_zero, Int.toNat_natCast, xb_v, xb_e, isb0, isb1, gi_n, gi_s, gi_k]
  have q2 : f_X11_checkSeconds x h (jI z5) = some (.inr (), h) := by
    simp (disch := omega) only [f_X11_checkSeconds, jL, jJ, jI_lt, jI_le, jI_eq, jI_nat, jBt, jBo, gl_, x_let, if_pos, if_neg, if_true, Option.bind_some, tvz, tvo, and_self, true_and, and_true, Int.toNat_zero, Int.toNat_natCast, xb_v, xb_e, isb0, isb1, gi_n, gi_s, gi_k]
  have q3 : f_X11_checkClock x h (jI (P * z5)) = some (.inr (), h) := by
    simp (disch := omega) only [f_X11_checkClock, jL, jJ, jI_lt, jI_le, jI_eq, jI_nat, jBt, jBo, gl_, x_let, if_pos, if_neg, if_true, Option.bind_some, tvz, tvo, and_self, true_and, and_true, Int.toNat_zero, Int.toNat_natCast, xb_v, xb_e, isb0, isb1, gi_n, gi_s, gi_k, e7]
  have b1 : x_b (jI p) 8 = true := jI_b (by omega) (by omega) (by omega)
  have b2 : x_b (jI z2) 6 = true := jI_b (by omega) (by omega) (by omega)
  have t1 : (jI p).toNatClampNeg = p := by rw [jI_nat (by omega) (by omega), Int.toNat_natCast]
  have t2 : (jI z2).toNatClampNeg = z2.toNat := jI_nat (by omega) (by omega)
  have le : jI (z3 + P) ≤ jI (wd x h (164 + 21 * z2.toNat)) := (jI_le (by omega) (by omega) (by omega) (by omega)).mpr g1
  unfold f_X11_put
  have k4' : h.1 (x + 13 + 6 + 3 * p) 3 = 0 := k4
  rw [cpy, xb_v, cdy, xb_v, if_pos b1, t1, if_pos k4', q1, xb_v, q2, xb_v, hpl, Option.bind_some, if_pos b2, t2, cdr, jI_add, if_pos le, jI_mul, q3, xb_v]
  simp only [x_let, f_X4_begin, f_X4_touchFrom]
  have r6 : ∀ H : XH, H.1 (x + 9) = h.1 (x + 9) → H.1 (x + 9) 6 = jI (wd x h 7) := fun H e => by rw [e, e6]
  have r7 : ∀ H : XH, H.1 (x + 9) = h.1 (x + 9) → H.1 (x + 9) 7 = jI (wd x h 6) := fun H e => by rw [e, e7]
  rw [r6 _ (by rw [gi_n (by omega), gi_n (by omega), gi_n (by omega), gi_n (by omega), gi_n (by omega), gi_n (by omega)])]
  rw [r7 _ (by rw [gi_n (by omega), gi_n (by omega), gi_n (by omega), gi_n (by omega), gi_n (by omega), gi_n (by omega), gi_n (by omega)])]
  rw [r6 _ (by rw [gi_n (by omega), gi_n (by omega), gi_n (by omega), gi_n (by omega), gi_n (by omega), gi_n (by omega), gi_n (by omega), gi_n (by omega), gi_n (by omega)])]
  rw [gi_k (by decide)]
  rw [r7 _ (by rw [gi_n (by omega), gi_n (by omega), gi_n (by omega), gi_n (by omega), gi_n (by omega), gi_n (by omega), gi_n (by omega), gi_n (by omega), gi_n (by omega)])]
  simp only [jL, jJ]
theorem rq_put {gh : Nat} {x : Nat} {K : XK} {h : XH} (I : Inv gh x K h) {p : Nat} {z2 z3 z4 z5 P : Int} (hp : (p : Int) < wd x h 1) (hq : ¬ 0 < wd x h (290 + 81 * p + 3)) (cd1 : 0 ≤ z2 ∧ z2 < wd x h 0) (cd2 : 0 ≤ z3 ∧ z3 < wd x h (164 + 21 * z2.toNat)) (d : 1 ≤ z4 ∧ z4 ≤ 3) (f : 1 ≤ z5 ∧ z5 ≤ 60) (hP : pl_ (wd x h (290 + 81 * p + 2)) z4 = P) (g1 : z3 + P ≤ wd x h (164 + 21 * z2.toNat)) (g2 : wd x h 6 + P * z5 ≤ 1000000) {H : XH} (eH : wd x H = wd x h) : f_X12_put x H (jI p) (jI z2) (jI z3) (jI z4) (jI z5) = some (jI P, x_i (wr_ (x + 65) (290 + 81 * p + 9) (fun k => wd x h 6 + k * z5) (P).toNat (x_i (x_i (x_i (x_i (x_i (x_i (x_i (H) (x + 64) 0 (jI 0)) (x + 65) 7 (jI (wd x h 7 + 1))) (x + 65) (290 + 81 * p + 3) (jI (wd x h 7 + 1))) (x + 65) (290 + 81 * p + 4) (jI (z2))) (x + 65) (290 + 81 * p + 5) (jI (z3))) (x + 65) (290 + 81 * p + 6) (jI (z4))) (x + 65) (290 + 81 * p + 7) (jI (z5)))) (x + 65) 6 (jI (wd x h 6 + P * z5))) := by
  obtain ⟨⟨w1, w2, w3, w4, w5, w6, w7, w8, w9, w10, w11, w12, w13, w14, w15, w16⟩, -⟩ := id I.1
  obtain ⟨⟨e1, e4, e6, e7, e8, e10, e12, e15⟩, -⟩ := id I.2.1
  have h20 := I.dr cd1
  obtain ⟨p1, p2, p3, p4, p5, p6, p7, p8, p9, p10, p11, p12, p13, -⟩ := I.wp hp
  obtain ⟨k1, k2, k3, k4, k5, -⟩ := I.pk hp
  rw [if_neg hq] at k4
  have hb := pl_b p7 p8 d.1 d.2
  have hpf := fun H => r_pf (h := H) p7 p8 d.1 d.2
  rw [hP] at hb
  simp only [hP] at hpf
  have hps : 0 ≤ P * z5 ∧ P * z5 ≤ 52 * 60 := ⟨Int.mul_nonneg (by omega) (by omega), Int.mul_le_mul (by omega) (by omega) (by omega) (by omega)⟩
  have eW : wd x (x_i H (x + 64) 0 (jI 0)) = wd x h := by rw [wm0, eH]
  have ei := rq_isp I eW hp
  rw [if_neg hq] at ei
  have o2 := (of_2 (x := x) (h := x_i H (x + 64) 0 (jI 0)) (p := p) (by omega)).trans (by rw [eW])
  have e6'' : (x_i H (x + 64) 0 (jI 0)).1 (x + 65) 6 = jI (wd x h 6) := by rw [wd_j, eW]
  have e7'' : (x_i H (x + 64) 0 (jI 0)).1 (x + 65) 7 = jI (wd x h 7) := by rw [wd_j, eW]
  have t6 : (6 : Int).toNat = 6 := rfl
  have t7 : (7 : Int).toNat = 7 := rfl
  have et := r_touch (x := x) (H := x_i (x_i (x_i (x_i (x_i (x_i (x_i (H) (x + 64) 0 (jI 0)) (x + 65) 7 (jI (wd x h 7 + 1))) (x + 65) (290 + 81 * p + 3) (jI (wd x h 7 + 1))) (x + 65) (290 + 81 * p + 4) (jI (z2))) (x + 65) (290 + 81 * p + 5) (jI (z3))) (x + 65) (290 + 81 * p + 6) (jI (z4))) (x + 65) (290 + 81 * p + 7) (jI (z5))) (p := p) (n := wd x h (290 + 81 * p + 2)) (per := z4) (c := wd x h 6) (s := z5) (by omega) (by rw [wd_s _ (by omega) (by omega), if_neg (by omega), wd_s _ (by omega) (by omega), if_neg (by omega), wd_s _ (by omega) (by omega), if_neg (by omega), wd_s _ (by omega) (by omega), if_neg (by omega), wd_s _ (by omega) (by omega), if_neg (by omega), wd_s _ (by omega) (by omega), if_neg (by omega), eW]) (by rw [wd_s _ (by omega) (by omega), if_neg (by omega), wd_s _ (by omega) (by omega), if_pos rfl]) p7 p8 d.1 d.2 (by rw [wd_s _ (by omega) (by omega), if_neg (by omega), wd_s _ (by omega) (by omega), if_neg (by omega), wd_s _ (by omega) (by omega), if_neg (by omega), wd_s _ (by omega) (by omega), if_neg (by omega), wd_s _ (by omega) (by omega), if_neg (by omega), wd_s _ (by omega) (by omega), if_neg (by omega), eW])
  rw [hP] at et
  have s3 := fun H v => rq_set (x := x) (H := H) (p := p) (j := 3) (v := v) (by omega) (by omega)
  have s4 := fun H v => rq_set (x := x) (H := H) (p := p) (j := 4) (v := v) (by omega) (by omega)
  have s5 := fun H v => rq_set (x := x) (H := H) (p := p) (j := 5) (v := v) (by omega) (by omega)
  have s6 := fun H v => rq_set (x := x) (H := H) (p := p) (j := 6) (v := v) (by omega) (by omega)
  have s7 := fun H v => rq_set (x := x) (H := H) (p := p) (j := 7) (v := v) (by omega) (by omega)
  rw [show (3 : Int).toNat = 3 from rfl] at s3
  rw [show (4 : Int).toNat = 4 from rfl] at s4
  rw [show (5 : Int).toNat = 5 from rfl] at s5
  rw [show (6 : Int).toNat = 6 from rfl] at s6
  rw [show (7 : Int).toNat = 7 from rfl] at s7
  simp (disch := omega) only [f_X12_put, f_X12_put_95, f_X12_noSeconds, f_X12_in, jL, jJ, jI_lt, jI_le, jI_eq, jI_nat, jBt, jBo, gl_, x_let, if_pos, if_neg, if_true, Option.bind_some, tvz, tvo, and_self, true_and, and_true, Int.toNat_zero, Int.toNat_natCast, xb_v, xb_e, isb0, isb1, gil, gl2, wd_i, wd_l, rq_noP I eW (z := p) ⟨by omega, hp⟩, rq_noD I eW cd1 cd2, ei, o2, hpf, rq_drs I eW cd1, e6'', e7'', t6, t7, gi_s, s3, s4, s5, s6, s7, et]

theorem c_pute {gh : Nat} {x : Nat} {K : XK} {h : XH} (I : Inv gh x K h) {p : Nat} {z2 z3 z4 z5 : Int} (r4 : -2147483648 ≤ z4 ∧ z4 < 2147483648) (r5 : -2147483648 ≤ z5 ∧ z5 < 2147483648) (hp : (p : Int) < wd x h 1) (hq : ¬ 0 < wd x h (290 + 81 * p + 3)) (cd1 : 0 ≤ z2 ∧ z2 < wd x h 0) (cd2 : 0 ≤ z3 ∧ z3 < wd x h (164 + 21 * z2.toNat)) (bad : ¬ ((1 ≤ z4 ∧ z4 ≤ 3) ∧ (1 ≤ z5 ∧ z5 ≤ 60) ∧ z3 + pl_ (wd x h (290 + 81 * p + 2)) z4 ≤ wd x h (164 + 21 * z2.toNat) ∧ wd x h 6 + pl_ (wd x h (290 + 81 * p + 2)) z4 * z5 ≤ 1000000)) : f_X11_put x h (jI p) (jI z2) (jI z3) (jI z4) (jI z5) = some (.inl 1, h) := by
  obtain ⟨⟨w1, w2, w3, w4, w5, w6, w7, w8, w9, w10, w11, w12, w13, w14, w15, w16⟩, -⟩ := id I.1
  obtain ⟨⟨e1, e4, e6, e7, e8, e10, e12, e15⟩, -⟩ := id I.2.1
  have h20 := I.dr cd1
  obtain ⟨p1, p2, p3, p4, p5, p6, p7, p8, p9, p10, p11, p12, p13, -⟩ := I.wp hp
  obtain ⟨k1, k2, k3, k4, k5, -⟩ := I.pk hp
  rw [if_neg hq] at k4
  have cdy := ckD_y I cd1 cd2
  have cpy := ckP_y I (z := p) ⟨by omega, hp⟩
  have cdr := c_drs I cd1
  by_cases d : 1 ≤ z4 ∧ z4 ≤ 3
  · by_cases f : 1 ≤ z5 ∧ z5 ≤ 60
    · have hb := pl_b p7 p8 d.1 d.2
      have hpl := c_pby I hp d.1 d.2
      generalize pl_ (wd x h (290 + 81 * p + 2)) z4 = P at hb hpl bad
      have hps : 0 ≤ P * z5 ∧ P * z5 ≤ 52 * 60 := ⟨Int.mul_nonneg (by omega) (by omega), Int.mul_le_mul (by omega) (by omega) (by omega) (by omega)⟩
      by_cases g1 : z3 + P ≤ wd x h (164 + 21 * z2.toNat)
      · simp (disch := omega) only [f_X11_put, f_X11_checkPer, f_X11_checkSeconds, f_X11_checkClock, jL, jJ, jI_lt, jI_le, jI_eq, jI_nat, jBt, jBo, gl_, x_let, if_pos, if_neg, if_true, Option.bind_some, tvz, tvo, and_self, true_and, and_true, Int.toNat_zero, Int.toNat_natCast, xb_v, xb_e, isb0, isb1, gi_n, gi_s, gi_k, cpy, cdy, k4, hpl, cdr, e7]
      · simp (disch := omega) only [f_X11_put, f_X11_checkPer, f_X11_checkSeconds, f_X11_checkClock, jL, jJ, jI_lt, jI_le, jI_eq, jI_nat, jBt, jBo, gl_, x_let, if_pos, if_neg, if_true, Option.bind_some, tvz, tvo, and_self, true_and, and_true, Int.toNat_zero, Int.toNat_natCast, xb_v, xb_e, isb0, isb1, gi_n, gi_s, gi_k, cpy, cdy, k4, hpl, cdr]
    · by_cases d1 : z5 < 1
      · simp (disch := omega) only [f_X11_put, f_X11_checkPer, f_X11_checkSeconds, f_X11_checkSeconds_11, jL, jJ, jI_lt, jI_le, jI_eq, jI_nat, jBt, jBo, gl_, x_let, if_pos, if_neg, if_true, Option.bind_some, tvz, tvo, and_self, true_and, and_true, Int.toNat_zero, Int.toNat_natCast, xb_v, xb_e, isb0, isb1, gi_n, gi_s, gi_k, cpy, cdy, k4]
      · simp (disch := omega) only [f_X11_put, f_X11_checkPer, f_X11_checkSeconds, f_X11_checkSeconds_11, jL, jJ, jI_lt, jI_le, jI_eq, jI_nat, jBt, jBo, gl_, x_let, if_pos, if_neg, if_true, Option.bind_some, tvz, tvo, and_self, true_and, and_true, Int.toNat_zero, Int.toNat_natCast, xb_v, xb_e, isb0, isb1, gi_n, gi_s, gi_k, cpy, cdy, k4]
  · by_cases d1 : z4 < 1
    · simp (disch := omega) only [f_X11_put, f_X11_checkPer, f_X11_checkPer_10, jL, jJ, jI_lt, jI_le, jI_eq, jI_nat, jBt, jBo, gl_, x_let, if_pos, if_neg, if_true, Option.bind_some, tvz, tvo, and_self, true_and, and_true, Int.toNat_zero, Int.toNat_natCast, xb_v, xb_e, isb0, isb1, gi_n, gi_s, gi_k, cpy, cdy, k4]
    · simp (disch := omega) only [f_X11_put, f_X11_checkPer, f_X11_checkPer_10, jL, jJ, jI_lt, jI_le, jI_eq, jI_nat, jBt, jBo, gl_, x_let, if_pos, if_neg, if_true, Option.bind_some, tvz, tvo, and_self, true_and, and_true, Int.toNat_zero, Int.toNat_natCast, xb_v, xb_e, isb0, isb1, gi_n, gi_s, gi_k, cpy, cdy, k4]
theorem rq_134 {x : Nat} {H : XH} {v1 v2 v3 v4 v5 v7 : Int32} : f_X12_put_134 x H v1 v2 v3 v4 v5 v7 = some (jI 0, x_i H (x + 64) 0 (jI 3)) := by
  unfold f_X12_put_134 f_X12_put_139
  rw [tv_1, Option.bind_some, if_neg (fun e => absurd (show (1 : Int32) = 0 from e) (by decide))]
  rfl
theorem rq_95 {x : Nat} {H : XH} {v1 v2 v3 v4 v5 s0 : Int32} : f_X12_put_95 x H v1 v2 v3 v4 v5 (jI 1) s0 = some (jI 0, x_i H (x + 64) 0 (jI 3)) := by
  unfold f_X12_put_95
  rw [if_neg (by decide)]
  exact rq_134
theorem rq_95d {x : Nat} {H : XH} {v1 v2 v3 v4 v5 s0 D : Int32} (hd : f_X12_doors x H v2 = some D) (lt : D < v3 + s0) : f_X12_put_95 x H v1 v2 v3 v4 v5 (jI 0) s0 = some (jI 0, x_i H (x + 64) 0 (jI 3)) := by
  unfold f_X12_put_95
  rw [if_pos (by decide), hd, Option.bind_some, if_pos lt]
  exact rq_134
theorem r_pute {gh : Nat} {x : Nat} {K : XK} {h : XH} (I : Inv gh x K h) {p : Nat} {z2 z3 z4 z5 : Int} (r4 : -2147483648 ≤ z4 ∧ z4 < 2147483648) (r5 : -2147483648 ≤ z5 ∧ z5 < 2147483648) (hp : (p : Int) < wd x h 1) (hq : ¬ 0 < wd x h (290 + 81 * p + 3)) (cd1 : 0 ≤ z2 ∧ z2 < wd x h 0) (cd2 : 0 ≤ z3 ∧ z3 < wd x h (164 + 21 * z2.toNat)) (bad : ¬ ((1 ≤ z4 ∧ z4 ≤ 3) ∧ (1 ≤ z5 ∧ z5 ≤ 60) ∧ z3 + pl_ (wd x h (290 + 81 * p + 2)) z4 ≤ wd x h (164 + 21 * z2.toNat) ∧ wd x h 6 + pl_ (wd x h (290 + 81 * p + 2)) z4 * z5 ≤ 1000000)) : f_X12_put x h (jI p) (jI z2) (jI z3) (jI z4) (jI z5) = some (jI 0, x_i (x_i h (x + 64) 0 (jI 0)) (x + 64) 0 (jI 3)) := by
  obtain ⟨⟨w1, w2, w3, w4, w5, w6, w7, w8, w9, w10, w11, w12, w13, w14, w15, w16⟩, -⟩ := id I.1
  obtain ⟨⟨e1, e4, e6, e7, e8, e10, e12, e15⟩, -⟩ := id I.2.1
  have h20 := I.dr cd1
  obtain ⟨p1, p2, p3, p4, p5, p6, p7, p8, p9, p10, p11, p12, p13, -⟩ := I.wp hp
  obtain ⟨k1, k2, k3, k4, k5, -⟩ := I.pk hp
  rw [if_neg hq] at k4
  have eW : wd x (x_i h (x + 64) 0 (jI 0)) = wd x h := wm0
  have ei := rq_isp I eW hp
  rw [if_neg hq] at ei
  have en := rq_noP I eW (z := p) ⟨by omega, hp⟩
  have ed := rq_noD I eW cd1 cd2
  by_cases d : 1 ≤ z4 ∧ z4 ≤ 3
  · by_cases f : 1 ≤ z5 ∧ z5 ≤ 60
    · have hb := pl_b p7 p8 d.1 d.2
      have hpf := fun H => r_pf (h := H) p7 p8 d.1 d.2
      have o2 := (of_2 (x := x) (h := x_i h (x + 64) 0 (jI 0)) (p := p) (by omega)).trans (by rw [eW])
      have edr := rq_drs I eW cd1
      have e6'' : (x_i h (x + 64) 0 (jI 0)).1 (x + 65) 6 = jI (wd x h 6) := by rw [wd_j, eW]
      have t6 : (6 : Int).toNat = 6 := rfl
      generalize pl_ (wd x h (290 + 81 * p + 2)) z4 = P at hb hpf bad
      have hps : 0 ≤ P * z5 ∧ P * z5 ≤ 52 * 60 := ⟨Int.mul_nonneg (by omega) (by omega), Int.mul_le_mul (by omega) (by omega) (by omega) (by omega)⟩
      by_cases g1 : z3 + P ≤ wd x h (164 + 21 * z2.toNat)
      · simp (disch := omega) only [f_X12_put, f_X12_put_95, f_X12_noSeconds, f_X12_in, jL, jJ, jI_lt, jI_le, jI_eq, jI_nat, jBt, jBo, gl_, x_let, if_pos, if_neg, if_true, Option.bind_some, tvz, tvo, and_self, true_and, and_true, Int.toNat_zero, Int.toNat_natCast, xb_v, xb_e, isb0, isb1, gil, gl2, wd_i, wd_l, en, ed, ei, o2, hpf, edr, e6'', t6]
      · have lt : jI (wd x h (164 + 21 * z2.toNat)) < jI z3 + jI P := by rw [jI_add]; exact (jI_lt (by omega) (by omega) (by omega) (by omega)).mpr (by omega)
        have e95 := fun v1 v4 v5 => rq_95d (v1 := v1) (v4 := v4) (v5 := v5) edr lt
        simp (disch := omega) only [f_X12_put, f_X12_noSeconds, f_X12_in, jL, jJ, jI_lt, jI_le, jI_eq, jI_nat, jBt, jBo, gl_, x_let, if_pos, if_neg, if_true, Option.bind_some, tvz, tvo, and_self, true_and, and_true, Int.toNat_zero, Int.toNat_natCast, xb_v, xb_e, isb0, isb1, gil, gl2, wd_i, wd_l, en, ed, ei, o2, hpf, e95]
    · by_cases d1 : z5 < 1
      · simp (disch := omega) only [f_X12_put, f_X12_noSeconds, f_X12_in, jL, jJ, jI_lt, jI_le, jI_eq, jI_nat, jBt, jBo, gl_, x_let, if_pos, if_neg, if_true, Option.bind_some, tvz, tvo, and_self, true_and, and_true, Int.toNat_zero, Int.toNat_natCast, xb_v, xb_e, isb0, isb1, gil, gl2, wd_i, wd_l, en, ed, ei, rq_95]
      · simp (disch := omega) only [f_X12_put, f_X12_noSeconds, f_X12_in, jL, jJ, jI_lt, jI_le, jI_eq, jI_nat, jBt, jBo, gl_, x_let, if_pos, if_neg, if_true, Option.bind_some, tvz, tvo, and_self, true_and, and_true, Int.toNat_zero, Int.toNat_natCast, xb_v, xb_e, isb0, isb1, gil, gl2, wd_i, wd_l, en, ed, ei, rq_95]
  · by_cases d1 : z4 < 1
    · simp (disch := omega) only [f_X12_put, f_X12_noSeconds, f_X12_in, jL, jJ, jI_lt, jI_le, jI_eq, jI_nat, jBt, jBo, gl_, x_let, if_pos, if_neg, if_true, Option.bind_some, tvz, tvo, and_self, true_and, and_true, Int.toNat_zero, Int.toNat_natCast, xb_v, xb_e, isb0, isb1, gil, gl2, wd_i, wd_l, en, ed, ei, rq_95]
    · simp (disch := omega) only [f_X12_put, f_X12_noSeconds, f_X12_in, jL, jJ, jI_lt, jI_le, jI_eq, jI_nat, jBt, jBo, gl_, x_let, if_pos, if_neg, if_true, Option.bind_some, tvz, tvo, and_self, true_and, and_true, Int.toNat_zero, Int.toNat_natCast, xb_v, xb_e, isb0, isb1, gil, gl2, wd_i, wd_l, en, ed, ei, rq_95]

/-- put -/
theorem P_row10 {gh : Nat} {x : Nat} {K : XK} {h : XH} (I : Inv gh x K h) (a1 a2 a3 a4 a5 : Int32) : ∃ h', f_row10 x h a1 a2 a3 a4 a5 = some h' ∧ Inv gh x K h' := by
  obtain ⟨⟨w1, w2, w3, w4, w5, w6, w7, w8, w9, w10, w11, w12, w13, w14, w15, w16⟩, -⟩ := id I.1
  obtain ⟨⟨e1, e4, e6, e7, e8, e10, e12, e15⟩, -⟩ := id I.2.1
  obtain ⟨z1, z1a, z1b, rfl⟩ := jI_ex a1
  obtain ⟨z2, z2a, z2b, rfl⟩ := jI_ex a2
  obtain ⟨z3, z3a, z3b, rfl⟩ := jI_ex a3
  obtain ⟨z4, z4a, z4b, rfl⟩ := jI_ex a4
  obtain ⟨z5, z5a, z5b, rfl⟩ := jI_ex a5
  have e0 : ∀ b1 b2 b3 b4 b5, f_row10 x h b1 b2 b3 b4 b5 = rc_ x (x_lb (f_X11_put x h b1 b2 b3 b4 b5) [0, 2, 1] (fun v h => x_l h (x + 76) (0 : Int32).toNatClampNeg v.toInt64)) (fun h => f_X12_put x h b1 b2 b3 b4 b5) := fun _ _ _ _ _ => rfl
  rw [e0]
  have h1 := I.w1
  have h0 := I.w0
  have t6 : (6 : Int).toNat = 6 := rfl
  have t7 : (7 : Int).toNat = 7 := rfl
  have ew : wd x (x_i h (x + 64) 0 (jI 0)) = wd x h := wm0
  by_cases c : 0 ≤ z1 ∧ z1 < wd x h 1
  · obtain ⟨p, rfl⟩ : ∃ p : Nat, z1 = p := ⟨z1.toNat, by omega⟩
    have hp := c.2
    have en := fun H eH => rq_noP (H := H) I eH c
    by_cases cd : (0 ≤ z2 ∧ z2 < wd x h 0) ∧ 0 ≤ z3 ∧ z3 < wd x h (164 + 21 * z2.toNat)
    · obtain ⟨cd1, cd2⟩ := cd
      have h20 := I.dr cd1
      have ed := fun H eH => rq_noD (H := H) I eH cd1 cd2
      have cdy := ckD_y I cd1 cd2
      have cpy := ckP_y I c
      obtain ⟨p1, p2, p3, p4, p5, p6, p7, p8, p9, p10, p11, p12, p13, -⟩ := I.wp hp
      obtain ⟨k1, k2, k3, k4, k5, -⟩ := I.pk hp
      have ei := fun H eH => rq_isp (H := H) I eH hp
      by_cases hq : 0 < wd x h (290 + 81 * p + 3)
      · rw [if_pos hq] at k4
        simp only [if_pos hq] at ei
        refine ⟨x_i (x_i h (x + 64) 0 (jI 0)) (x + 64) 0 (jI 2), rc_e (r := jI 0) (h1 := h) (e := 2) (j := 1) ?_ rfl (by decide) ?_ ?_, I.fr fr_t⟩
        · simp (disch := omega) only [f_X11_put, jL, jJ, jI_lt, jI_le, jI_eq, jI_nat, jBt, jBo, gi_, gl_, x_let, if_pos, if_neg, if_true, Option.bind_some, tvz, tvo, wd_j, and_self, true_and, and_true, Int.toNat_zero, Int.toNat_natCast, xb_v, xb_e, isb0, isb1, gil, gl2, wd_i, wd_l, cpy, cdy, k4]
        · simp (disch := omega) only [f_X12_put, f_X12_put_48, jL, jJ, jI_lt, jI_le, jI_eq, jI_nat, jBt, jBo, gl_, x_let, if_pos, if_neg, if_true, Option.bind_some, tvz, tvo, and_self, true_and, and_true, Int.toNat_zero, Int.toNat_natCast, xb_v, xb_e, isb0, isb1, gil, gl2, wd_i, wd_l, en _ ew, ed _ ew, ei _ ew]
        · simp (disch := omega) only [gi_n, gi_s]; rfl
      · rw [if_neg hq] at k4
        simp only [if_neg hq] at ei
        by_cases bad : (1 ≤ z4 ∧ z4 ≤ 3) ∧ (1 ≤ z5 ∧ z5 ≤ 60) ∧ z3 + pl_ (wd x h (290 + 81 * p + 2)) z4 ≤ wd x h (164 + 21 * z2.toNat) ∧ wd x h 6 + pl_ (wd x h (290 + 81 * p + 2)) z4 * z5 ≤ 1000000
        · obtain ⟨d, f, g1, g2⟩ := bad
          generalize hP : pl_ (wd x h (290 + 81 * p + 2)) z4 = P at g1 g2
          have eC := c_put I hp hq cd1 cd2 d f hP g1 g2
          have eR := fun H eH => rq_put I hp hq cd1 cd2 d f hP g1 g2 (H := H) eH
          refine ⟨_, rc_v eC (eR _ (by funext k; rw [wd_l]; simp (disch := omega) only [wd_i])) (by rw [gi_n (by omega), wr_n (by omega)]; simp (disch := omega) only [gi_n, gi_s]; rfl) (by rw [gi_2, wr_2]; rfl), ?_⟩
          exact I.pt hp hq rfl rfl hP d cd1 ⟨cd2.1, g1⟩ f g2
        · refine ⟨_, rc_e (hs := [0, 2, 1]) (e := 1) (j := 2) (c_pute I ⟨z4a, z4b⟩ ⟨z5a, z5b⟩ hp hq cd1 cd2 bad) rfl (by decide) (r_pute I ⟨z4a, z4b⟩ ⟨z5a, z5b⟩ hp hq cd1 cd2 bad) ?_, I.fr fr_t⟩
          simp (disch := omega) only [gi_n, gi_s]; rfl
    · refine ⟨x_i (x_i h (x + 64) 0 (jI 0)) (x + 64) 0 (jI 1), rc_e (r := jI 0) (h1 := h) (e := 0) (j := 0) ?_ rfl (by decide) ?_ ?_, I.fr fr_t⟩
      · simp (disch := omega) only [f_X11_put, jL, jJ, jI_lt, jI_le, jI_eq, jI_nat, jBt, jBo, gi_, gl_, x_let, if_pos, if_neg, if_true, Option.bind_some, tvz, tvo, wd_j, and_self, true_and, and_true, Int.toNat_zero, Int.toNat_natCast, xb_v, xb_e, isb0, isb1, gil, gl2, wd_i, wd_l, ckP_y I c, ckD_n I ⟨z2a, z2b⟩ ⟨z3a, z3b⟩ cd]
      · have rn := ckD_rn I.m0 ⟨z2a, z2b⟩ ⟨z3a, z3b⟩ (by rw [wm0]; exact cd)
        simp (disch := omega) only [f_X12_put, f_X12_put_48, jL, jJ, jI_lt, jI_le, jI_eq, jI_nat, jBt, jBo, gl_, x_let, if_pos, if_neg, if_true, Option.bind_some, tvz, tvo, and_self, true_and, and_true, Int.toNat_zero, Int.toNat_natCast, xb_v, xb_e, isb0, isb1, gil, gl2, wd_i, wd_l, en _ ew, rn]
      · simp (disch := omega) only [gi_n, gi_s]; rfl
  · refine ⟨x_i (x_i h (x + 64) 0 (jI 0)) (x + 64) 0 (jI 1), rc_e (r := jI 0) (h1 := h) (e := 0) (j := 0) ?_ rfl (by decide) ?_ ?_, I.fr fr_t⟩
    · simp (disch := omega) only [f_X11_put, jL, jJ, jI_lt, jI_le, jI_eq, jI_nat, jBt, jBo, gi_, gl_, x_let, if_pos, if_neg, if_true, Option.bind_some, tvz, tvo, wd_j, and_self, true_and, and_true, Int.toNat_zero, Int.toNat_natCast, xb_v, xb_e, isb0, isb1, gil, gl2, wd_i, wd_l, ckP_n I ⟨z1a, z1b⟩ c]
    · have rn := ckP_rn I.m0 ⟨z1a, z1b⟩ (by rw [wm0]; exact c)
      simp (disch := omega) only [f_X12_put, f_X12_put_23, f_X12_put_28, f_X12_put_48, jL, jJ, jI_lt, jI_le, jI_eq, jI_nat, jBt, jBo, gl_, x_let, if_pos, if_neg, if_true, Option.bind_some, tvz, tvo, and_self, true_and, and_true, Int.toNat_zero, Int.toNat_natCast, xb_v, xb_e, isb0, isb1, gil, gl2, wd_i, wd_l, rn]
    · simp (disch := omega) only [gi_n, gi_s]; rfl
