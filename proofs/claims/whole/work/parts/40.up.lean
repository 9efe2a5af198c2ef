/-! ===== rows that change a few numbers, on ===== -/
/-- week -/
theorem P_row35 {gh : Nat} {x : Nat} {K : XK} {h : XH} (I : Inv gh x K h) (a1 : Int32) : ∃ h', f_row35 x h a1 = some h' ∧ Inv gh x K h' := by
  obtain ⟨⟨w1, w2, w3, w4, w5, w6, w7, w8, w9, w10, w11, w12, w13, w14, w15, w16⟩, -⟩ := id I.1
  obtain ⟨⟨e1, e4, e6, e7, e8, e10, e12, e15⟩, -⟩ := id I.2.1
  obtain ⟨z1, z1a, z1b, rfl⟩ := jI_ex a1
  have e0 : ∀ b1, f_row35 x h b1 = rc_ x (x_lb (f_X11_week x h b1) [1, 3] (fun v h => x_l h (x + 76) (0 : Int32).toNatClampNeg v.toInt64)) (fun h => f_X12_week x h b1) := fun _ => rfl
  rw [e0]
  by_cases c : 0 ≤ z1 ∧ z1 ≤ 9999
  · obtain ⟨c1, c2⟩ := c
    by_cases d : wd x h 5 < 20
    · obtain ⟨m, hm⟩ : ∃ m : Nat, wd x h 5 = (m : Int) := ⟨(wd x h 5).toNat, by omega⟩
      have t : (944 + (m : Int)).toNat = 944 + m := by omega
      have t5 : (5 : Int).toNat = 5 := rfl
      have eR : ∀ H : XH, wd x H = wd x h → f_X12_week x H (jI z1) = some (jI ((m : Int) + 1), x_i (x_i (x_i H (x + 64) 0 (jI 0)) (x + 65) (944 + m) (jI z1)) (x + 65) 5 (jI ((m : Int) + 1))) := fun H eH => by
        have e5 : H.1 (x + 65) 5 = jI m := by rw [wd_j, eH, hm]
        simp (disch := omega) only [f_X12_week, f_X12_in, jL, jJ, jI_lt, jI_le, jI_eq, jI_nat, jBt, jBo, gi_, gl_, x_let, if_pos, if_neg, if_true, Option.bind_some, tvz, tvo, and_self, true_and, and_true, Int.toNat_zero, Int.toNat_natCast, xb_v, xb_e, isb0, isb1, gil, gl2, wd_i, wd_l, t, e5, t5]
      have eC : f_X11_week x h (jI z1) = some (.inr (jI ((m : Int) + 1)), x_i (x_i h (x + 18) m (jI z1)) (x + 9) 15 (jI ((m : Int) + 1))) := by
        have e15' : h.1 (x + 9) 15 = jI m := by rw [e15, hm]
        simp (disch := omega) only [f_X11_week, jL, jJ, jI_lt, jI_le, jI_eq, jI_nat, jBt, jBo, gi_, gl_, x_let, if_pos, if_neg, if_true, Option.bind_some, tvz, tvo, wd_j, and_self, true_and, and_true, Int.toNat_zero, Int.toNat_natCast, xb_v, xb_e, isb0, isb1, gil, gl2, wd_i, wd_l, e15']
      refine ⟨_, rc_v eC (eR _ (by funext k; simp (disch := omega) only [wd_i, wd_l])) (by simp (disch := omega) only [gi_n, gi_s]; rfl) rfl, ?_⟩
      generalize (jI ((m : Int) + 1)).toInt64 = V
      generalize (0 : Int32).toNatClampNeg = u
      refine I.sm (fun a _ _ _ _ _ _ _ _ => by simp (disch := omega) only [gi_n, gl_]) (fun j _ _ _ => by simp (disch := omega) only [gi_n, gi_k, gl_]) (by simp (disch := omega) only [gi_n, gi_k, gl_]) (by simp (disch := omega) only [gi_n, gi_k, gl_]) (by simp (disch := omega) only [gi_n, gi_k, gl_]) (by simp (disch := omega) only [gir, glr]) (fun k hk => by simp (disch := omega) only [wd_i, wd_l, wd_s, if_neg]) (fun j hj => by simp (disch := omega) only [wd_i, wd_l, wd_s, if_neg]) ?c4 ?c5 ?c6 ?s7 ?s12 ?s15 (I.sD (by simp (disch := omega) only [gi_n, gl_]) (fun k _ _ => by simp (disch := omega) only [wd_i, wd_l, wd_s, if_neg])) (I.sL (by simp (disch := omega) only [gi_n, gl_]) (fun k hk => by simp (disch := omega) only [wd_i, wd_l, wd_s, if_neg])) (I.sM (by simp (disch := omega) only [gi_n, gl_]) (fun k hk => by simp (disch := omega) only [wd_i, wd_l, wd_s, if_neg])) (I.sN (by simp (disch := omega) only [gi_n, gl_]) (fun k _ _ => by simp (disch := omega) only [wd_i, wd_l, wd_s, if_neg])) ?W
      case c4 => simp (disch := omega) only [wd_i, wd_l, wd_s, if_neg, gi_n, gi_k, gl_, e7, e12, e15]; omega
      case c6 => simp (disch := omega) only [wd_i, wd_l, wd_s, if_neg, gi_n, gi_k, gl_, e7, e12, e15]; omega
      case s7 => simp (disch := omega) only [wd_i, wd_l, wd_s, if_neg, gi_n, gi_k, gl_, e7, e12, e15]
      case s12 => simp (disch := omega) only [wd_i, wd_l, wd_s, if_neg, gi_n, gi_k, gl_, e7, e12, e15]
      case c5 => simp (disch := omega) only [wd_i, wd_l, wd_s, if_neg, if_true]; omega
      case s15 => simp (disch := omega) only [wd_i, wd_l, wd_s, if_neg, if_true, gi_n, gi_s, gl_]
      case W =>
        have e5 : wd x (x_i (x_i (x_i (x_l (x_i (x_i h (x + 18) m (jI z1)) (x + 9) 15 (jI (m + 1))) (x + 76) u V) (x + 64) 0 (jI 0)) (x + 65) (944 + m) (jI z1)) (x + 65) 5 (jI (m + 1))) 5 = m + 1 := by simp (disch := omega) only [wd_i, wd_l, wd_s, if_neg, if_true]
        have ew : ∀ k, k < 20 → wd x (x_i (x_i (x_i (x_l (x_i (x_i h (x + 18) m (jI z1)) (x + 9) 15 (jI (m + 1))) (x + 76) u V) (x + 64) 0 (jI 0)) (x + 65) (944 + m) (jI z1)) (x + 65) 5 (jI (m + 1))) (944 + k) = if k = m then z1 else wd x h (944 + k) := fun k hk => by
          by_cases e : k = m
          · subst e; simp (disch := omega) only [wd_i, wd_l, wd_s, if_pos, if_neg, if_true]
          · simp (disch := omega) only [wd_i, wd_l, wd_s, if_neg]
        refine ⟨fun k hk => ?_, fun k hk => ?_⟩
        · rw [e5] at hk
          rw [ew k (by omega)]
          by_cases e : k = m
          · rw [if_pos e]; omega
          · rw [if_neg e]; exact I.1.2.2.2.2.2.2.1 k (by omega)
        · rw [e5] at hk
          rw [ew k (by omega)]
          by_cases e : k = m
          · subst e; simp (disch := omega) only [gi_n, gi_s, gl_, if_true]
          · simp (disch := omega) only [gi_n, gi_k, gl_, if_neg]; exact I.2.1.2.2.2.2.2.2.1 k (by omega)
    · refine ⟨x_i (x_i h (x + 64) 0 (jI 0)) (x + 64) 0 (jI 2), rc_e (r := jI 0) (h1 := h) (e := 3) (j := 1) ?_ rfl (by decide) ?_ ?_, I.fr fr_t⟩
      · have e15' : h.1 (x + 9) 15 = jI 20 := by rw [e15, show wd x h 5 = 20 by omega]
        simp (disch := omega) only [f_X11_week, jL, jJ, jI_lt, jI_le, jI_eq, jI_nat, jBt, jBo, gi_, gl_, x_let, if_pos, if_neg, if_true, Option.bind_some, tvz, tvo, wd_j, and_self, true_and, and_true, Int.toNat_zero, Int.toNat_natCast, xb_v, xb_e, isb0, isb1, gil, gl2, wd_i, wd_l, e15']
      · have e5 : h.1 (x + 65) 5 = jI 20 := by rw [wd_j, show wd x h 5 = 20 by omega]
        have t5 : (5 : Int).toNat = 5 := rfl
        simp (disch := omega) only [f_X12_week, f_X12_week_53, f_X12_in, jL, jJ, jI_lt, jI_le, jI_eq, jI_nat, jBt, jBo, gi_, gl_, x_let, if_pos, if_neg, if_true, Option.bind_some, tvz, tvo, and_self, true_and, and_true, Int.toNat_zero, Int.toNat_natCast, xb_v, xb_e, isb0, isb1, gil, gl2, wd_i, wd_l, e5, t5]
      · simp (disch := omega) only [gi_n, gi_s]; rfl
  · refine ⟨x_i (x_i h (x + 64) 0 (jI 0)) (x + 64) 0 (jI 1), rc_e (r := jI 0) (h1 := h) (e := 1) (j := 0) ?_ rfl (by decide) ?_ ?_, I.fr fr_t⟩
    · by_cases d1 : z1 < 0
      · simp (disch := omega) only [f_X11_week, f_X11_week_11, jL, jJ, jI_lt, jI_le, jI_eq, jI_nat, jBt, jBo, gi_, gl_, x_let, if_pos, if_neg, if_true, Option.bind_some, tvz, tvo, wd_j, and_self, true_and, and_true, Int.toNat_zero, Int.toNat_natCast, xb_v, xb_e, isb0, isb1, gil, gl2, wd_i, wd_l]
      · simp (disch := omega) only [f_X11_week, f_X11_week_11, jL, jJ, jI_lt, jI_le, jI_eq, jI_nat, jBt, jBo, gi_, gl_, x_let, if_pos, if_neg, if_true, Option.bind_some, tvz, tvo, wd_j, and_self, true_and, and_true, Int.toNat_zero, Int.toNat_natCast, xb_v, xb_e, isb0, isb1, gil, gl2, wd_i, wd_l]
    · by_cases d1 : z1 < 0
      · simp (disch := omega) only [f_X12_week, f_X12_week_53, f_X12_in, jL, jJ, jI_lt, jI_le, jI_eq, jI_nat, jBt, jBo, gi_, gl_, x_let, if_pos, if_neg, if_true, Option.bind_some, tvz, tvo, wd_j, and_self, true_and, and_true, Int.toNat_zero, Int.toNat_natCast, xb_v, xb_e, isb0, isb1, gil, gl2, wd_i, wd_l]
      · simp (disch := omega) only [f_X12_week, f_X12_week_53, f_X12_in, jL, jJ, jI_lt, jI_le, jI_eq, jI_nat, jBt, jBo, gi_, gl_, x_let, if_pos, if_neg, if_true, Option.bind_some, tvz, tvo, wd_j, and_self, true_and, and_true, Int.toNat_zero, Int.toNat_natCast, xb_v, xb_e, isb0, isb1, gil, gl2, wd_i, wd_l]
    · simp (disch := omega) only [gi_n, gi_s]; rfl

/-- moments -/
theorem P_row26 {gh : Nat} {x : Nat} {K : XK} {h : XH} (I : Inv gh x K h) : ∃ h', f_row26 x h = some h' ∧ Inv gh x K h' := by
  obtain ⟨⟨w1, w2, w3, w4, w5, w6, w7, w8, w9, w10, w11, w12, w13, w14, w15, w16⟩, -⟩ := id I.1
  obtain ⟨⟨e1, e4, e6, e7, e8, e10, e12, e15⟩, -⟩ := id I.2.1
  refine ⟨x_i (x_i (x_i h (x + 9) 12 (jI 0)) (x + 64) 0 (jI 0)) (x + 65) 4 (jI 0), ?_, ?_⟩
  · have e4' : h.1 (x + 65) 4 = jI (wd x h 4) := wd_j _ _ _
    have t4 : (4 : Int).toNat = 4 := rfl
    simp (disch := omega) only [f_row26, f_X11_moments, f_X12_moments, jL, jJ, jI_lt, jI_le, jI_eq, jI_nat, jBt, jBo, gi_, gl_, x_let, if_pos, if_neg, if_true, Option.bind_some, tvz, tvo, and_self, true_and, and_true, Int.toNat_zero, Int.toNat_natCast, xb_v, xb_e, isb0, isb1, gil, gl2, wd_i, wd_l, e12, e4', t4]
  · skip
    refine I.sm (fun a _ _ _ _ _ _ _ _ => by simp (disch := omega) only [gi_n, gl_]) (fun j _ _ _ => by simp (disch := omega) only [gi_n, gi_k, gl_]) (by simp (disch := omega) only [gi_n, gi_k, gl_]) (by simp (disch := omega) only [gi_n, gi_k, gl_]) (by simp (disch := omega) only [gi_n, gi_k, gl_]) (by simp (disch := omega) only [gir, glr]) (fun k hk => by simp (disch := omega) only [wd_i, wd_l, wd_s, if_neg]) (fun j hj => by simp (disch := omega) only [wd_i, wd_l, wd_s, if_neg]) ?c4 ?c5 ?c6 ?s7 ?s12 ?s15 (I.sD (by simp (disch := omega) only [gi_n, gl_]) (fun k _ _ => by simp (disch := omega) only [wd_i, wd_l, wd_s, if_neg])) (I.sL (by simp (disch := omega) only [gi_n, gl_]) (fun k hk => by simp (disch := omega) only [wd_i, wd_l, wd_s, if_neg])) ?M (I.sN (by simp (disch := omega) only [gi_n, gl_]) (fun k _ _ => by simp (disch := omega) only [wd_i, wd_l, wd_s, if_neg])) (I.sW (by simp (disch := omega) only [gi_n, gl_]) (fun k hk => by simp (disch := omega) only [wd_i, wd_l, wd_s, if_neg]))
    case c5 => simp (disch := omega) only [wd_i, wd_l, wd_s, if_neg, gi_n, gi_k, gl_, e7, e12, e15]; omega
    case c6 => simp (disch := omega) only [wd_i, wd_l, wd_s, if_neg, gi_n, gi_k, gl_, e7, e12, e15]; omega
    case s7 => simp (disch := omega) only [wd_i, wd_l, wd_s, if_neg, gi_n, gi_k, gl_, e7, e12, e15]
    case s15 => simp (disch := omega) only [wd_i, wd_l, wd_s, if_neg, gi_n, gi_k, gl_, e7, e12, e15]
    case c4 => simp (disch := omega) only [wd_i, wd_l, wd_s, if_neg, if_true]; omega
    case s12 => simp (disch := omega) only [wd_i, wd_l, wd_s, if_neg, if_true, gi_n, gi_s, gl_]
    case M =>
      have e5 : wd x (x_i (x_i (x_i h (x + 9) 12 (jI 0)) (x + 64) 0 (jI 0)) (x + 65) 4 (jI 0)) 4 = 0 := by simp (disch := omega) only [wd_i, wd_l, wd_s, if_neg, if_true]
      refine ⟨⟨fun k hk => ?_, fun k hk => ?_⟩, fun k hk => ?_⟩ <;> rw [e5] at hk <;> omega

/-- later -/
theorem P_row11 {gh : Nat} {x : Nat} {K : XK} {h : XH} (I : Inv gh x K h) (a1 : Int32) : ∃ h', f_row11 x h a1 = some h' ∧ Inv gh x K h' := by
  obtain ⟨⟨w1, w2, w3, w4, w5, w6, w7, w8, w9, w10, w11, w12, w13, w14, w15, w16⟩, -⟩ := id I.1
  obtain ⟨⟨e1, e4, e6, e7, e8, e10, e12, e15⟩, -⟩ := id I.2.1
  obtain ⟨z1, z1a, z1b, rfl⟩ := jI_ex a1
  have e0 : ∀ b1, f_row11 x h b1 = rc_ x (x_lb (f_X11_later x h b1) [1] (fun v h => x_l h (x + 76) (0 : Int32).toNatClampNeg v.toInt64)) (fun h => f_X12_later x h b1) := fun _ => rfl
  rw [e0]
  have t6 : (6 : Int).toNat = 6 := rfl
  by_cases c : 0 ≤ z1 ∧ z1 ≤ 1000000 - wd x h 6
  · obtain ⟨c1, c2⟩ := c
    have eR : ∀ H : XH, wd x H = wd x h → f_X12_later x H (jI z1) = some (jI (wd x h 6 + z1), x_i (x_i H (x + 64) 0 (jI 0)) (x + 65) 6 (jI (wd x h 6 + z1))) := fun H eH => by
      have e6 : H.1 (x + 65) 6 = jI (wd x h 6) := by rw [wd_j, eH]
      simp (disch := omega) only [f_X12_later, jL, jJ, jI_lt, jI_le, jI_eq, jI_nat, jBt, jBo, gi_, gl_, x_let, if_pos, if_neg, if_true, Option.bind_some, tvz, tvo, and_self, true_and, and_true, Int.toNat_zero, Int.toNat_natCast, xb_v, xb_e, isb0, isb1, gil, gl2, wd_i, wd_l, e6, t6]
    have eC : f_X11_later x h (jI z1) = some (.inr (jI (wd x h 6 + z1)), x_i h (x + 9) 7 (jI (wd x h 6 + z1))) := by
      simp (disch := omega) only [f_X11_later, f_X11_checkClock, jL, jJ, jI_lt, jI_le, jI_eq, jI_nat, jBt, jBo, gi_, gl_, x_let, if_pos, if_neg, if_true, Option.bind_some, tvz, tvo, wd_j, and_self, true_and, and_true, Int.toNat_zero, Int.toNat_natCast, xb_v, xb_e, isb0, isb1, gil, gl2, wd_i, wd_l, e7]
    refine ⟨_, rc_v eC (eR _ (by funext k; simp (disch := omega) only [wd_i, wd_l])) (by simp (disch := omega) only [gi_n, gi_s]; rfl) rfl, ?_⟩
    generalize (jI (wd x h 6 + z1)).toInt64 = V
    generalize (0 : Int32).toNatClampNeg = u
    refine I.sm (fun a _ _ _ _ _ _ _ _ => by simp (disch := omega) only [gi_n, gl_]) (fun j _ _ _ => by simp (disch := omega) only [gi_n, gi_k, gl_]) (by simp (disch := omega) only [gi_n, gi_k, gl_]) (by simp (disch := omega) only [gi_n, gi_k, gl_]) (by simp (disch := omega) only [gi_n, gi_k, gl_]) (by simp (disch := omega) only [gir, glr]) (fun k hk => by simp (disch := omega) only [wd_i, wd_l, wd_s, if_neg]) (fun j hj => by simp (disch := omega) only [wd_i, wd_l, wd_s, if_neg]) ?c4 ?c5 ?c6 ?s7 ?s12 ?s15 (I.sD (by simp (disch := omega) only [gi_n, gl_]) (fun k _ _ => by simp (disch := omega) only [wd_i, wd_l, wd_s, if_neg])) (I.sL (by simp (disch := omega) only [gi_n, gl_]) (fun k hk => by simp (disch := omega) only [wd_i, wd_l, wd_s, if_neg])) (I.sM (by simp (disch := omega) only [gi_n, gl_]) (fun k hk => by simp (disch := omega) only [wd_i, wd_l, wd_s, if_neg])) (I.sN (by simp (disch := omega) only [gi_n, gl_]) (fun k _ _ => by simp (disch := omega) only [wd_i, wd_l, wd_s, if_neg])) (I.sW (by simp (disch := omega) only [gi_n, gl_]) (fun k hk => by simp (disch := omega) only [wd_i, wd_l, wd_s, if_neg]))
    case c4 => simp (disch := omega) only [wd_i, wd_l, wd_s, if_neg, gi_n, gi_k, gl_, e7, e12, e15]; omega
    case c5 => simp (disch := omega) only [wd_i, wd_l, wd_s, if_neg, gi_n, gi_k, gl_, e7, e12, e15]; omega
    case s12 => simp (disch := omega) only [wd_i, wd_l, wd_s, if_neg, gi_n, gi_k, gl_, e7, e12, e15]
    case s15 => simp (disch := omega) only [wd_i, wd_l, wd_s, if_neg, gi_n, gi_k, gl_, e7, e12, e15]
    case c6 => simp (disch := omega) only [wd_i, wd_l, wd_s, if_neg, if_true]; omega
    case s7 => simp (disch := omega) only [wd_i, wd_l, wd_s, if_neg, if_true, gi_n, gi_s, gl_]
  · refine ⟨x_i (x_i h (x + 64) 0 (jI 0)) (x + 64) 0 (jI 1), rc_e (r := jI 0) (h1 := h) (e := 1) (j := 0) ?_ rfl (by decide) ?_ ?_, I.fr fr_t⟩
    · by_cases d1 : 0 ≤ z1
      · simp (disch := omega) only [f_X11_later, f_X11_checkClock, jL, jJ, jI_lt, jI_le, jI_eq, jI_nat, jBt, jBo, gi_, gl_, x_let, if_pos, if_neg, if_true, Option.bind_some, tvz, tvo, wd_j, and_self, true_and, and_true, Int.toNat_zero, Int.toNat_natCast, xb_v, xb_e, isb0, isb1, gil, gl2, wd_i, wd_l, e7]
      · simp (disch := omega) only [f_X11_later, f_X11_checkClock, jL, jJ, jI_lt, jI_le, jI_eq, jI_nat, jBt, jBo, gi_, gl_, x_let, if_pos, if_neg, if_true, Option.bind_some, tvz, tvo, wd_j, and_self, true_and, and_true, Int.toNat_zero, Int.toNat_natCast, xb_v, xb_e, isb0, isb1, gil, gl2, wd_i, wd_l, e7]
    · have e6 : h.1 (x + 65) 6 = jI (wd x h 6) := by rw [wd_j]
      by_cases d1 : 0 ≤ z1
      · simp (disch := omega) only [f_X12_later, f_X12_later_25, f_X12_later_30, jL, jJ, jI_lt, jI_le, jI_eq, jI_nat, jBt, jBo, gi_, gl_, x_let, if_pos, if_neg, if_true, Option.bind_some, tvz, tvo, and_self, true_and, and_true, Int.toNat_zero, Int.toNat_natCast, xb_v, xb_e, isb0, isb1, gil, gl2, wd_i, wd_l, e6, t6]
      · simp (disch := omega) only [f_X12_later, f_X12_later_25, f_X12_later_30, jL, jJ, jI_lt, jI_le, jI_eq, jI_nat, jBt, jBo, gi_, gl_, x_let, if_pos, if_neg, if_true, Option.bind_some, tvz, tvo, and_self, true_and, and_true, Int.toNat_zero, Int.toNat_natCast, xb_v, xb_e, isb0, isb1, gil, gl2, wd_i, wd_l, e6, t6]
    · simp (disch := omega) only [gi_n, gi_s]; rfl
