/-! ===== fits ===== -/
def fb_ (w : Nat → Int) (p : Nat) (off r : Int32) : Nat → Int32
  | 0 => 0
  | n + 1 => if off < f_J9_abs_0f7a4 (fun _ _ => 0, fun _ _ => 0, fun _ _ => none) (jI (aw_ w n p (w 6)) - r) then fb_ w p off r n else fb_ w p off r n ||| (x_shl 1 (jI (n : Int)))
theorem abs_h (h h' : XH) (v : Int32) : f_J9_abs_0f7a4 h v = f_J9_abs_0f7a4 h' v := rfl
theorem c_fits {gh : Nat} {x : Nat} {K : XK} {h : XH} (I : Inv gh x K h) {p : Nat} (hp : (p : Int) < wd x h 1) (hq : 0 < wd x h (290 + 81 * p + 3)) {off r : Int32} : ∃ h2, f_X11_fits_49 K x x_FU h (jI p) off r (jI 0) (jI 0) = some (.inr (fb_ (wd x h) p off r (wd x h 2).toNat), h2) ∧ (∀ a, a ≠ x + 44 → a ≠ x + 45 → h2.1 a = h.1 a) ∧ h2.2 = h.2 := by
  have w1 := I.w1
  have w2 := I.w2
  have w6 := I.w6
  have e8 := I.2.1.1.2.2.2.2.1
  have e7 := I.2.1.1.2.2.2.1
  have key := x_up0 (P := fun m n => ∀ h1 : XH, (∀ a, a ≠ x + 44 → a ≠ x + 45 → h1.1 a = h.1 a) → h1.2 = h.2 → ∃ h2, f_X11_fits_49 K x m h1 (jI p) off r (fb_ (wd x h) p off r n) (jI (n : Int)) = some (.inr (fb_ (wd x h) p off r (wd x h 2).toNat), h2) ∧ (∀ a, a ≠ x + 44 → a ≠ x + 45 → h2.1 a = h.1 a) ∧ h2.2 = h.2) (wd x h 2).toNat (by omega) (fun m h1 f1 f2 => by
    refine ⟨h1, ?_, f1, f2⟩
    unfold f_X11_fits_49
    rw [f1 _ (by omega) (by omega), e8, if_pos ((jI_le (by omega) (by omega) (by omega) (by omega)).mpr (by omega))]) (fun m n hn ih => by
    intro h1 f1 f2
    have ht : (n : Int) < wd x h 2 := by omega
    obtain ⟨t, hr, ct⟩ := I.law ht
    have rr := ct.1
    have hx := I.wl ht
    have F : Fr x h h1 := Fr.o2 f1 f2 (by decide) (by decide)
    have c' : CTx x K h1 t (wd x h) (970 + 851 * n) false := ct.c ⟨hx.1, hx.2.1⟩ (fun _ _ _ => rfl) (fun a q1 _ => f1 a (by omega) (by omega)) (fun _ _ _ => rfl)
    have s1 := c_sumAt (I.fr F) (p := p) (t := n) (r := t) (by rw [F.ew]; exact hp) (by rw [F.ew]; exact hq) (by rw [F.ew]; exact c') (by rw [F.ew]; exact hx) (ck := wd x h 6) (by rw [F.ew]; omega)
    rw [F.ew] at s1
    obtain ⟨h3, s1, s2, s3⟩ := s1
    obtain ⟨h5, k1, k2, k3⟩ := ih h3 (fun a q1 q2 => by rw [s2 a q1 q2, f1 a q1 q2]) (by rw [s3, f2])
    refine ⟨h5, ?_, k2, k3⟩
    have a1 : jI (n : Int) + 1 = jI ((n + 1 : Nat) : Int) := by
      rw [show (1 : Int32) = jI 1 from rfl, jI_add]
      rfl
    unfold f_X11_fits_49
    rw [f1 (x + 9) (by omega) (by omega), e8, if_neg (fun e => absurd ((jI_le (by omega) (by omega) (by omega) (by omega)).mp e) (by omega)), if_pos (jI_b (by omega) (by omega) (by omega)), nat_ (by omega), show h1.2.2 (x + 14) n = some t by rw [f2]; exact hr, e7, s1, Option.bind_some, a1]
    exact k1)
  exact key h (fun _ _ _ => rfl) rfl
theorem r_fits {gh : Nat} {x : Nat} {K : XK} {h : XH} (I : Inv gh x K h) {p : Nat} (hp : (p : Int) < wd x h 1) (hq : 0 < wd x h (290 + 81 * p + 3)) {off : Int32} : ∃ h2, f_X12_fits_70 x x_FU h (jI p) off (jI 0) (jI 0) = some (fb_ (wd x h) p off (100 * jI (kn_ (wd x h) p 0 (wd x h (290 + 81 * p + 2)).toNat)) (wd x h 2).toNat, h2) ∧ (∀ a, a ≠ x + 69 → a ≠ x + 70 → h2.1 a = h.1 a) ∧ h2.2 = h.2 := by
  have w1 := I.w1
  have w2 := I.w2
  have w6 := I.w6
  generalize hR : (100 * jI (kn_ (wd x h) p 0 (wd x h (290 + 81 * p + 2)).toNat) : Int32) = r
  have key := x_up0 (P := fun m n => ∀ h1 : XH, (∀ a, a ≠ x + 69 → a ≠ x + 70 → h1.1 a = h.1 a) → h1.2 = h.2 → ∃ h2, f_X12_fits_70 x m h1 (jI p) off (fb_ (wd x h) p off r n) (jI (n : Int)) = some (fb_ (wd x h) p off r (wd x h 2).toNat, h2) ∧ (∀ a, a ≠ x + 69 → a ≠ x + 70 → h2.1 a = h.1 a) ∧ h2.2 = h.2) (wd x h 2).toNat (by omega) (fun m h1 f1 f2 => by
    refine ⟨h1, ?_, f1, f2⟩
    unfold f_X12_fits_70
    rw [if_pos (by decide), f1 _ (by omega) (by omega), show h.1 (x + 65) (2 : Int32).toNatClampNeg = jI (wd x h 2) from wd_j _ _ _, if_pos ((jI_le (by omega) (by omega) (by omega) (by omega)).mpr (by omega))]) (fun m n hn ih => by
    intro h1 f1 f2
    have ht : (n : Int) < wd x h 2 := by omega
    have F : Fr x h h1 := Fr.o2 f1 f2 (by decide) (by decide)
    have s1 := r_sumAt (I.fr F) (p := p) (t := n) (by rw [F.ew]; exact hp) (by rw [F.ew]; exact hq) (by rw [F.ew]; exact ht) (s := 0) (by omega)
    rw [F.ew, Int.add_zero] at s1
    obtain ⟨h3, s1, s2, s3⟩ := s1
    have f3 : ∀ a, a ≠ x + 69 → a ≠ x + 70 → h3.1 a = h.1 a := fun a q1 q2 => by rw [s2 a q1 q2, f1 a q1 q2]
    have F3 : Fr x h h3 := Fr.o2 f3 (by rw [s3, f2]) (by decide) (by decide)
    have kk := r_kns (I.fr F3) (p := p) (by rw [F3.ew]; exact hp) (by rw [F3.ew]; exact hq) (k := 0) (by omega)
    rw [F3.ew] at kk
    have kk' : f_X12_kindsOf x h3 (jI p) 0 = _ := kk
    have s1' : f_X12_awaitedIn x h1 (jI n) (jI p) 0 = _ := s1
    obtain ⟨h5, k1, k2, k3⟩ := ih h3 f3 (by rw [s3, f2])
    refine ⟨h5, ?_, k2, k3⟩
    have a1 : jI (n : Int) + 1 = jI ((n + 1 : Nat) : Int) := by
      rw [show (1 : Int32) = jI 1 from rfl, jI_add]
      rfl
    unfold f_X12_fits_70
    rw [if_pos (by decide), f1 _ (by omega) (by omega), show h.1 (x + 65) (2 : Int32).toNatClampNeg = jI (wd x h 2) from wd_j _ _ _, if_neg (fun e => absurd ((jI_le (by omega) (by omega) (by omega) (by omega)).mp e) (by omega)), s1', Option.bind_some, kk', Option.bind_some, hR, xl_, a1]
    have e : (fb_ (wd x h) p off r n ||| (if off < f_J9_abs_0f7a4 h3 (jI (aw_ (wd x h) n p (wd x h 6)) - r) then 0 else x_shl 1 (jI (n : Int)))) = fb_ (wd x h) p off r (n + 1) := by
      show _ = if off < f_J9_abs_0f7a4 (fun _ _ => 0, fun _ _ => 0, fun _ _ => none) (jI (aw_ (wd x h) n p (wd x h 6)) - r) then fb_ (wd x h) p off r n else fb_ (wd x h) p off r n ||| (x_shl 1 (jI (n : Int)))
      rw [abs_h h3 (fun _ _ => 0, fun _ _ => 0, fun _ _ => none)]
      by_cases c : off < f_J9_abs_0f7a4 (fun _ _ => 0, fun _ _ => 0, fun _ _ => none) (jI (aw_ (wd x h) n p (wd x h 6)) - r)
      · rw [if_pos c, if_pos c, Int32.or_zero]
      · rw [if_neg c, if_neg c]
    rw [e]
    exact k1)
  exact key h (fun _ _ _ => rfl) rfl
theorem P_row22 {gh : Nat} {x : Nat} {K : XK} {h : XH} (I : Inv gh x K h) (a1 a2 : Int32) : ∃ h', f_row22 K x h a1 a2 = some h' ∧ Inv gh x K h' := by
  obtain ⟨z1, z1a, z1b, rfl⟩ := jI_ex a1
  obtain ⟨z2, z2a, z2b, rfl⟩ := jI_ex a2
  have e0 : ∀ b1 b2, f_row22 K x h b1 b2 = rc_ x (x_lb (f_X11_fits K x h b1 b2) [0, 2, 1] (fun v h => x_l h (x + 76) (0 : Int32).toNatClampNeg v.toInt64)) (fun h => f_X12_fits x h b1 b2) := fun _ _ => rfl
  rw [e0]
  have h1 := I.w1
  have j5 : (5200 : Int32) = jI 5200 := rfl
  by_cases c : 0 ≤ z1 ∧ z1 < wd x h 1
  · obtain ⟨p, rfl⟩ : ∃ p : Nat, z1 = p := ⟨z1.toNat, by omega⟩
    have hp := c.2
    by_cases hq : 0 < wd x h (290 + 81 * p + 3)
    · by_cases c2 : 0 ≤ z2 ∧ z2 ≤ 5200
      · obtain ⟨hh, g1, g2, g3⟩ := c_fits I hp hq (off := jI z2) (r := jI 100 * jI (kn_ (wd x h) p 0 (wd x h (290 + 81 * p + 2)).toNat))
        have rg := c_rgt I hp
        rw [jI_mul] at g1
        refine rc_q I (res := .inr (fb_ (wd x h) p (jI z2) (jI (100 * kn_ (wd x h) p 0 (wd x h (290 + 81 * p + 2)).toNat)) (wd x h 2).toNat)) ⟨hh, ?_, Fr.o2 g2 g3 (by decide) (by decide)⟩ (fun H J eH => ?_)
        · simp (disch := omega) only [f_X11_fits, f_X11_fits_16, ckT_y I hp hq, j5, jL, jJ, jI_lt, jI_le, jI_eq, jI_nat, jBt, jBo, gi_, gl_, x_let, if_pos, if_neg, if_true, Option.bind_some, tvz, tvo, wd_j, and_self, true_and, and_true, Int.toNat_zero, Int.toNat_natCast, xb_v, xb_e, isb0, isb1, gil, gl2, wd_i, wd_l, rg, g1]
        · have ew : wd x (x_i H (x + 64) 0 (jI 0)) = wd x h := by rw [wm0, eH]
          have e2 := ckP_ry J.m0 (z := (p : Int)) (by rw [ew]; exact c)
          have e3 := r_isp J.m0 (p := p) (by rw [ew]; exact hp)
          rw [ew, if_pos hq] at e3
          have rn := r_fits J.m0 (p := p) (by rw [ew]; exact hp) (by rw [ew]; exact hq) (off := jI z2)
          rw [ew, show (100 : Int32) = jI 100 from rfl, jI_mul] at rn
          obtain ⟨H2, k1, k2, k3⟩ := rn
          refine ⟨_, H2, ?_, fr_0.tr (Fr.o2 k2 k3 (by decide) (by decide)), by rw [k3]; rfl, by rw [k2 _ (by omega) (by omega)]; exact gi_s, rfl⟩
          simp (disch := omega) only [f_X12_fits, f_X12_fits_63, f_X12_in, j5, jL, jJ, jI_lt, jI_le, jI_eq, jI_nat, jBt, jBo, gi_, gl_, x_let, if_pos, if_neg, if_true, Option.bind_some, tvz, tvo, wd_j, and_self, true_and, and_true, Int.toNat_zero, Int.toNat_natCast, xb_v, xb_e, isb0, isb1, gil, gl2, wd_i, wd_l, e2, e3, k1]
      · refine rc_q I (res := .inl 1) ⟨h, ?_, Fr.rf⟩ (fun H J eH => ⟨jI 0, x_i (x_i H (x + 64) 0 (jI 0)) (x + 64) 0 (jI 3), ?_, fr_t, rfl, 2, rfl, by decide, gi_s⟩)
        · by_cases c4 : z2 < 0
          · simp (disch := omega) only [f_X11_fits, f_X11_fits_16, ckT_y I hp hq, j5, jL, jJ, jI_lt, jI_le, jI_eq, jI_nat, jBt, jBo, gi_, gl_, x_let, if_pos, if_neg, if_true, Option.bind_some, tvz, tvo, wd_j, and_self, true_and, and_true, Int.toNat_zero, Int.toNat_natCast, xb_v, xb_e, isb0, isb1, gil, gl2, wd_i, wd_l]
          · simp (disch := omega) only [f_X11_fits, f_X11_fits_16, ckT_y I hp hq, j5, jL, jJ, jI_lt, jI_le, jI_eq, jI_nat, jBt, jBo, gi_, gl_, x_let, if_pos, if_neg, if_true, Option.bind_some, tvz, tvo, wd_j, and_self, true_and, and_true, Int.toNat_zero, Int.toNat_natCast, xb_v, xb_e, isb0, isb1, gil, gl2, wd_i, wd_l]
        · have ew : wd x (x_i H (x + 64) 0 (jI 0)) = wd x h := by rw [wm0, eH]
          have e2 := ckP_ry J.m0 (z := (p : Int)) (by rw [ew]; exact c)
          have e3 := r_isp J.m0 (p := p) (by rw [ew]; exact hp)
          rw [ew, if_pos hq] at e3
          by_cases c4 : z2 < 0
          · simp (disch := omega) only [f_X12_fits, f_X12_fits_63, f_X12_in, j5, jL, jJ, jI_lt, jI_le, jI_eq, jI_nat, jBt, jBo, gi_, gl_, x_let, if_pos, if_neg, if_true, Option.bind_some, tvz, tvo, wd_j, and_self, true_and, and_true, Int.toNat_zero, Int.toNat_natCast, xb_v, xb_e, isb0, isb1, gil, gl2, wd_i, wd_l, e2, e3]
          · simp (disch := omega) only [f_X12_fits, f_X12_fits_63, f_X12_in, j5, jL, jJ, jI_lt, jI_le, jI_eq, jI_nat, jBt, jBo, gi_, gl_, x_let, if_pos, if_neg, if_true, Option.bind_some, tvz, tvo, wd_j, and_self, true_and, and_true, Int.toNat_zero, Int.toNat_natCast, xb_v, xb_e, isb0, isb1, gil, gl2, wd_i, wd_l, e2, e3]
    · refine rc_q I (res := .inl 2) ⟨h, ?_, Fr.rf⟩ (fun H J eH => ⟨jI 0, x_i (x_i H (x + 64) 0 (jI 0)) (x + 64) 0 (jI 2), ?_, fr_t, rfl, 1, rfl, by decide, gi_s⟩)
      · simp (disch := omega) only [f_X11_fits, f_X11_fits_16, ckT_n I hp hq, jL, jJ, jI_lt, jI_le, jI_eq, jI_nat, jBt, jBo, gi_, gl_, x_let, if_pos, if_neg, if_true, Option.bind_some, tvz, tvo, wd_j, and_self, true_and, and_true, Int.toNat_zero, Int.toNat_natCast, xb_v, xb_e, isb0, isb1, gil, gl2, wd_i, wd_l]
      · have ew : wd x (x_i H (x + 64) 0 (jI 0)) = wd x h := by rw [wm0, eH]
        have e2 := ckP_ry J.m0 (z := (p : Int)) (by rw [ew]; exact c)
        have e3 := r_isp J.m0 (p := p) (by rw [ew]; exact hp)
        rw [ew, if_neg hq] at e3
        simp (disch := omega) only [f_X12_fits, f_X12_fits_63, f_X12_in, j5, jL, jJ, jI_lt, jI_le, jI_eq, jI_nat, jBt, jBo, gi_, gl_, x_let, if_pos, if_neg, if_true, Option.bind_some, tvz, tvo, wd_j, and_self, true_and, and_true, Int.toNat_zero, Int.toNat_natCast, xb_v, xb_e, isb0, isb1, gil, gl2, wd_i, wd_l, e2, e3]
  · refine rc_q I (res := .inl 0) ⟨h, ?_, Fr.rf⟩ (fun H J eH => ⟨jI 0, x_i (x_i H (x + 64) 0 (jI 0)) (x + 64) 0 (jI 1), ?_, fr_t, rfl, 0, rfl, by decide, gi_s⟩)
    · simp (disch := omega) only [f_X11_fits, f_X11_fits_16, ckT_e I ⟨z1a, z1b⟩ c, jL, jJ, jI_lt, jI_le, jI_eq, jI_nat, jBt, jBo, gi_, gl_, x_let, if_pos, if_neg, if_true, Option.bind_some, tvz, tvo, wd_j, and_self, true_and, and_true, Int.toNat_zero, Int.toNat_natCast, xb_v, xb_e, isb0, isb1, gil, gl2, wd_i, wd_l]
    · have ew : wd x (x_i H (x + 64) 0 (jI 0)) = wd x h := by rw [wm0, eH]
      have e2 := ckP_rn J.m0 ⟨z1a, z1b⟩ (by rw [ew]; exact c)
      simp (disch := omega) only [f_X12_fits, f_X12_fits_63, f_X12_in, j5, jL, jJ, jI_lt, jI_le, jI_eq, jI_nat, jBt, jBo, gi_, gl_, x_let, if_pos, if_neg, if_true, Option.bind_some, tvz, tvo, wd_j, and_self, true_and, and_true, Int.toNat_zero, Int.toNat_natCast, xb_v, xb_e, isb0, isb1, gil, gl2, wd_i, wd_l, e2]
