/-! ===== moment, look, end ===== -/
theorem c_lm {gh : Nat} {x : Nat} {K : XK} {h : XH} (I : Inv gh x K h) {m : Nat} (hm : wd x h 4 = m) : f_X7_lastMoment (x + 9) h = some (jI (if m = 0 then 0 else wd x h (938 + (m - 1)))) := by
  obtain ⟨⟨w1, w2, w3, w4, w5, w6, w7, w8, w9, w10, w11, w12, w13, w14, w15, w16⟩, -⟩ := id I.1
  obtain ⟨⟨e1, e4, e6, e7, e8, e10, e12, e15⟩, -⟩ := id I.2.1
  rw [hm] at e12
  by_cases c : m = 0
  · subst c
    simp (disch := omega) only [f_X7_lastMoment, jL, jJ, jI_lt, jI_le, jI_eq, jI_nat, jBt, jBo, gi_, gl_, x_let, if_pos, if_neg, if_true, Option.bind_some, tvz, tvo, wd_j, and_self, true_and, and_true, Int.toNat_zero, Int.toNat_natCast, xb_v, xb_e, isb0, isb1, gil, gl2, wd_i, wd_l, e12]
  · have t : ((m : Int) - 1).toNat = m - 1 := by omega
    have ev : h.1 (x + 9 + 7) (m - 1) = jI (wd x h (938 + (m - 1))) := I.2.1.2.2.2.2.1 (m - 1) (by omega)
    simp (disch := omega) only [f_X7_lastMoment, jL, jJ, jI_lt, jI_le, jI_eq, jI_nat, jBt, jBo, gi_, gl_, x_let, if_pos, if_neg, if_true, Option.bind_some, tvz, tvo, wd_j, and_self, true_and, and_true, Int.toNat_zero, Int.toNat_natCast, xb_v, xb_e, isb0, isb1, gil, gl2, wd_i, wd_l, e12, t, ev]
theorem r_lm {gh : Nat} {x : Nat} {K : XK} {h H : XH} (I : Inv gh x K h) {m : Nat} (hm : wd x h 4 = m) (eH : wd x H = wd x h) (v : Int32) : f_X12_moment x H v = f_X12_moment_34 x (x_i H (x + 64) 0 (jI 0)) v (jI m) v (jI (if m = 0 then 0 else wd x h (938 + (m - 1)))) := by
  obtain ⟨⟨w1, w2, w3, w4, w5, w6, w7, w8, w9, w10, w11, w12, w13, w14, w15, w16⟩, -⟩ := id I.1
  obtain ⟨⟨e1, e4, e6, e7, e8, e10, e12, e15⟩, -⟩ := id I.2.1
  have e4' : H.1 (x + 65) 4 = jI m := by rw [wd_j, eH, hm]
  have t4 : (4 : Int).toNat = 4 := rfl
  by_cases c : m = 0
  · subst c
    simp (disch := omega) only [f_X12_moment, jL, jJ, jI_lt, jI_le, jI_eq, jI_nat, jBt, jBo, gi_, gl_, x_let, if_pos, if_neg, if_true, Option.bind_some, tvz, tvo, and_self, true_and, and_true, Int.toNat_zero, Int.toNat_natCast, xb_v, xb_e, isb0, isb1, gil, gl2, wd_i, wd_l, e4', t4]
  · have t : (938 + (m : Int) - 1).toNat = 938 + (m - 1) := by omega
    have ev : H.1 (x + 65) (938 + (m - 1)) = jI (wd x h (938 + (m - 1))) := by rw [wd_j, eH]
    simp (disch := omega) only [f_X12_moment, jL, jJ, jI_lt, jI_le, jI_eq, jI_nat, jBt, jBo, gi_, gl_, x_let, if_pos, if_neg, if_true, Option.bind_some, tvz, tvo, and_self, true_and, and_true, Int.toNat_zero, Int.toNat_natCast, xb_v, xb_e, isb0, isb1, gil, gl2, wd_i, wd_l, e4', t4, t, ev]
/-- moment -/
theorem P_row25 {gh : Nat} {x : Nat} {K : XK} {h : XH} (I : Inv gh x K h) (a1 : Int32) : ∃ h', f_row25 x h a1 = some h' ∧ Inv gh x K h' := by
  obtain ⟨⟨w1, w2, w3, w4, w5, w6, w7, w8, w9, w10, w11, w12, w13, w14, w15, w16⟩, -⟩ := id I.1
  obtain ⟨⟨e1, e4, e6, e7, e8, e10, e12, e15⟩, -⟩ := id I.2.1
  obtain ⟨z1, z1a, z1b, rfl⟩ := jI_ex a1
  have e0 : ∀ b1, f_row25 x h b1 = rc_ x (x_lb (f_X11_moment x h b1) [1, 3] (fun v h => x_l h (x + 76) (0 : Int32).toNatClampNeg v.toInt64)) (fun h => f_X12_moment x h b1) := fun _ => rfl
  rw [e0]
  obtain ⟨m, hm⟩ : ∃ m : Nat, wd x h 4 = (m : Int) := ⟨(wd x h 4).toNat, by omega⟩
  have cl := c_lm I hm
  have rl := fun H eH => r_lm I hm (H := H) eH
  have hM := I.1.2.2.2.2.2.1
  have lb : 0 ≤ (if m = 0 then 0 else wd x h (938 + (m - 1))) ∧ (if m = 0 then 0 else wd x h (938 + (m - 1))) ≤ 99999 := by
    by_cases c : m = 0
    · rw [if_pos c]; omega
    · rw [if_neg c]
      have := hM.1 (m - 1) (by omega)
      omega
  have lb2 : m ≠ 0 → (if m = 0 then 0 else wd x h (938 + (m - 1))) = wd x h (938 + (m - 1)) := fun c => if_neg c
  generalize (if m = 0 then 0 else wd x h (938 + (m - 1))) = lm at cl rl lb lb2
  have e12' : h.1 (x + 9) 12 = jI m := by rw [e12, hm]
  have t4 : (4 : Int).toNat = 4 := rfl
  by_cases c : lm < z1 ∧ z1 ≤ 99999
  · obtain ⟨c1, c2⟩ := c
    by_cases d : m < 6
    · have t : (938 + (m : Int)).toNat = 938 + m := by omega
      have eR : ∀ H : XH, wd x H = wd x h → f_X12_moment x H (jI z1) = some (jI ((m : Int) + 1), x_i (x_i (x_i H (x + 64) 0 (jI 0)) (x + 65) (938 + m) (jI z1)) (x + 65) 4 (jI ((m : Int) + 1))) := fun H eH => by
        rw [rl H eH]
        have e4' : H.1 (x + 65) 4 = jI m := by rw [wd_j, eH, hm]
        simp (disch := omega) only [f_X12_moment_34, jL, jJ, jI_lt, jI_le, jI_eq, jI_nat, jBt, jBo, gi_, gl_, x_let, if_pos, if_neg, if_true, Option.bind_some, tvz, tvo, and_self, true_and, and_true, Int.toNat_zero, Int.toNat_natCast, xb_v, xb_e, isb0, isb1, gil, gl2, wd_i, wd_l, t, e4', t4]
      have eC : f_X11_moment x h (jI z1) = some (.inr (jI ((m : Int) + 1)), x_i (x_i h (x + 16) m (jI z1)) (x + 9) 12 (jI ((m : Int) + 1))) := by
        simp (disch := omega) only [f_X11_moment, jL, jJ, jI_lt, jI_le, jI_eq, jI_nat, jBt, jBo, gi_, gl_, x_let, if_pos, if_neg, if_true, Option.bind_some, tvz, tvo, wd_j, and_self, true_and, and_true, Int.toNat_zero, Int.toNat_natCast, xb_v, xb_e, isb0, isb1, gil, gl2, wd_i, wd_l, e12', cl]
      refine ⟨_, rc_v eC (eR _ (by funext k; simp (disch := omega) only [wd_i, wd_l])) (by simp (disch := omega) only [gi_n, gi_s]; rfl) rfl, ?_⟩
      generalize (jI ((m : Int) + 1)).toInt64 = V
      generalize (0 : Int32).toNatClampNeg = u
      refine I.sm (fun a _ _ _ _ _ _ _ _ => by simp (disch := omega) only [gi_n, gl_]) (fun j _ _ _ => by simp (disch := omega) only [gi_n, gi_k, gl_]) (by simp (disch := omega) only [gi_n, gi_k, gl_]) (by simp (disch := omega) only [gi_n, gi_k, gl_]) (by simp (disch := omega) only [gi_n, gi_k, gl_]) (by simp (disch := omega) only [gir, glr]) (fun k hk => by simp (disch := omega) only [wd_i, wd_l, wd_s, if_neg]) (fun j hj => by simp (disch := omega) only [wd_i, wd_l, wd_s, if_neg]) ?c4 ?c5 ?c6 ?s7 ?s12 ?s15 (I.sD (by simp (disch := omega) only [gi_n, gl_]) (fun k _ _ => by simp (disch := omega) only [wd_i, wd_l, wd_s, if_neg])) (I.sL (by simp (disch := omega) only [gi_n, gl_]) (fun k hk => by simp (disch := omega) only [wd_i, wd_l, wd_s, if_neg])) ?M (I.sN (by simp (disch := omega) only [gi_n, gl_]) (fun k _ _ => by simp (disch := omega) only [wd_i, wd_l, wd_s, if_neg])) (I.sW (by simp (disch := omega) only [gi_n, gl_]) (fun k hk => by simp (disch := omega) only [wd_i, wd_l, wd_s, if_neg]))
      case c5 => simp (disch := omega) only [wd_i, wd_l, wd_s, if_neg, gi_n, gi_k, gl_, e7, e12, e15]; omega
      case c6 => simp (disch := omega) only [wd_i, wd_l, wd_s, if_neg, gi_n, gi_k, gl_, e7, e12, e15]; omega
      case s7 => simp (disch := omega) only [wd_i, wd_l, wd_s, if_neg, gi_n, gi_k, gl_, e7, e12, e15]
      case s15 => simp (disch := omega) only [wd_i, wd_l, wd_s, if_neg, gi_n, gi_k, gl_, e7, e12, e15]
      case c4 => simp (disch := omega) only [wd_i, wd_l, wd_s, if_neg, if_true]; omega
      case s12 => simp (disch := omega) only [wd_i, wd_l, wd_s, if_neg, if_true, gi_n, gi_s, gl_]
      case M =>
        have e5 : wd x (x_i (x_i (x_i (x_l (x_i (x_i h (x + 16) m (jI z1)) (x + 9) 12 (jI (m + 1))) (x + 76) u V) (x + 64) 0 (jI 0)) (x + 65) (938 + m) (jI z1)) (x + 65) 4 (jI (m + 1))) 4 = m + 1 := by simp (disch := omega) only [wd_i, wd_l, wd_s, if_neg, if_true]
        have ew : ∀ k, k < 6 → wd x (x_i (x_i (x_i (x_l (x_i (x_i h (x + 16) m (jI z1)) (x + 9) 12 (jI (m + 1))) (x + 76) u V) (x + 64) 0 (jI 0)) (x + 65) (938 + m) (jI z1)) (x + 65) 4 (jI (m + 1))) (938 + k) = if k = m then z1 else wd x h (938 + k) := fun k hk => by
          by_cases e : k = m
          · subst e; simp (disch := omega) only [wd_i, wd_l, wd_s, if_pos, if_neg, if_true]
          · simp (disch := omega) only [wd_i, wd_l, wd_s, if_neg]
        refine ⟨⟨fun k hk => ?_, fun k hk => ?_⟩, fun k hk => ?_⟩
        · rw [e5] at hk
          rw [ew k (by omega)]
          by_cases e : k = m
          · rw [if_pos e]; omega
          · rw [if_neg e]; exact hM.1 k (by omega)
        · rw [e5] at hk
          rw [ew k (by omega), show 939 + k = 938 + (k + 1) by omega, ew (k + 1) (by omega), if_neg (by omega)]
          by_cases e : k + 1 = m
          · rw [if_pos e]
            have := lb2 (by omega)
            rw [show m - 1 = k by omega] at this
            omega
          · rw [if_neg e, show 938 + (k + 1) = 939 + k by omega]; exact hM.2 k (by omega)
        · rw [e5] at hk
          rw [ew k (by omega)]
          by_cases e : k = m
          · subst e; simp (disch := omega) only [gi_n, gi_s, gl_, if_true]
          · simp (disch := omega) only [gi_n, gi_k, gl_, if_neg]; exact I.2.1.2.2.2.2.1 k (by omega)
    · refine ⟨x_i (x_i h (x + 64) 0 (jI 0)) (x + 64) 0 (jI 2), rc_e (r := jI 0) (h1 := h) (e := 3) (j := 1) ?_ rfl (by decide) ?_ ?_, I.fr fr_t⟩
      · simp (disch := omega) only [f_X11_moment, jL, jJ, jI_lt, jI_le, jI_eq, jI_nat, jBt, jBo, gi_, gl_, x_let, if_pos, if_neg, if_true, Option.bind_some, tvz, tvo, wd_j, and_self, true_and, and_true, Int.toNat_zero, Int.toNat_natCast, xb_v, xb_e, isb0, isb1, gil, gl2, wd_i, wd_l, e12', cl]
      · rw [rl h rfl]
        simp (disch := omega) only [f_X12_moment_34, f_X12_moment_75, jL, jJ, jI_lt, jI_le, jI_eq, jI_nat, jBt, jBo, gi_, gl_, x_let, if_pos, if_neg, if_true, Option.bind_some, tvz, tvo, and_self, true_and, and_true, Int.toNat_zero, Int.toNat_natCast, xb_v, xb_e, isb0, isb1, gil, gl2, wd_i, wd_l]
      · simp (disch := omega) only [gi_n, gi_s]; rfl
  · refine ⟨x_i (x_i h (x + 64) 0 (jI 0)) (x + 64) 0 (jI 1), rc_e (r := jI 0) (h1 := h) (e := 1) (j := 0) ?_ rfl (by decide) ?_ ?_, I.fr fr_t⟩
    · by_cases d1 : z1 ≤ lm
      · simp (disch := omega) only [f_X11_moment, f_X11_moment_18, jL, jJ, jI_lt, jI_le, jI_eq, jI_nat, jBt, jBo, gi_, gl_, x_let, if_pos, if_neg, if_true, Option.bind_some, tvz, tvo, wd_j, and_self, true_and, and_true, Int.toNat_zero, Int.toNat_natCast, xb_v, xb_e, isb0, isb1, gil, gl2, wd_i, wd_l, cl]
      · simp (disch := omega) only [f_X11_moment, f_X11_moment_18, jL, jJ, jI_lt, jI_le, jI_eq, jI_nat, jBt, jBo, gi_, gl_, x_let, if_pos, if_neg, if_true, Option.bind_some, tvz, tvo, wd_j, and_self, true_and, and_true, Int.toNat_zero, Int.toNat_natCast, xb_v, xb_e, isb0, isb1, gil, gl2, wd_i, wd_l, cl]
    · rw [rl h rfl]
      by_cases d1 : z1 ≤ lm
      · simp (disch := omega) only [f_X12_moment_34, f_X12_moment_75, jL, jJ, jI_lt, jI_le, jI_eq, jI_nat, jBt, jBo, gi_, gl_, x_let, if_pos, if_neg, if_true, Option.bind_some, tvz, tvo, and_self, true_and, and_true, Int.toNat_zero, Int.toNat_natCast, xb_v, xb_e, isb0, isb1, gil, gl2, wd_i, wd_l]
      · simp (disch := omega) only [f_X12_moment_34, f_X12_moment_75, jL, jJ, jI_lt, jI_le, jI_eq, jI_nat, jBt, jBo, gi_, gl_, x_let, if_pos, if_neg, if_true, Option.bind_some, tvz, tvo, and_self, true_and, and_true, Int.toNat_zero, Int.toNat_natCast, xb_v, xb_e, isb0, isb1, gil, gl2, wd_i, wd_l]
    · simp (disch := omega) only [gi_n, gi_s]; rfl
theorem c_drs {gh : Nat} {x : Nat} {K : XK} {h : XH} (I : Inv gh x K h) {z : Int} (hz : 0 ≤ z ∧ z < wd x h 0) : h.1 (x + 11) z.toNat = jI (wd x h (164 + 21 * z.toNat)) := (I.2.1.2.2.1 z.toNat (by omega)).1
theorem r_drs {gh : Nat} {x : Nat} {K : XK} {h : XH} (I : Inv gh x K h) {z : Int} (hz : 0 ≤ z ∧ z < wd x h 0) : f_X12_doors x h (jI z) = some (jI (wd x h (164 + 21 * z.toNat))) := by
  have h0 := I.w0
  have t : (164 + 21 * z).toNat = 164 + 21 * z.toNat := by omega
  simp (disch := omega) only [f_X12_doors, jL, jJ, jI_lt, jI_le, jI_eq, jI_nat, jBt, jBo, gi_, gl_, x_let, if_pos, if_neg, if_true, Option.bind_some, tvz, tvo, wd_j, and_self, true_and, and_true, Int.toNat_zero, Int.toNat_natCast, xb_v, xb_e, isb0, isb1, gil, gl2, wd_i, wd_l, t]
theorem ckD_y {gh : Nat} {x : Nat} {K : XK} {h : XH} (I : Inv gh x K h) {z d : Int} (hz : 0 ≤ z ∧ z < wd x h 0) (hd : 0 ≤ d ∧ d < wd x h (164 + 21 * z.toNat)) : f_X11_checkDoor x h (jI z) (jI d) = some (.inr (), h) := by
  have h0 := I.w0
  have h2 := I.dr hz
  simp (disch := omega) only [f_X11_checkDoor, ckH_y I hz, jL, jJ, jI_lt, jI_le, jI_eq, jI_nat, jBt, jBo, gi_, gl_, x_let, if_pos, if_neg, if_true, Option.bind_some, tvz, tvo, wd_j, and_self, true_and, and_true, Int.toNat_zero, Int.toNat_natCast, xb_v, xb_e, isb0, isb1, gil, gl2, wd_i, wd_l, c_drs I hz]
theorem ckD_n {gh : Nat} {x : Nat} {K : XK} {h : XH} (I : Inv gh x K h) {z d : Int} (rz : -2147483648 ≤ z ∧ z < 2147483648) (rd : -2147483648 ≤ d ∧ d < 2147483648) (hz : ¬ ((0 ≤ z ∧ z < wd x h 0) ∧ 0 ≤ d ∧ d < wd x h (164 + 21 * z.toNat))) : f_X11_checkDoor x h (jI z) (jI d) = some (.inl 0, h) := by
  have h0 := I.w0
  by_cases c : 0 ≤ z ∧ z < wd x h 0
  · have h2 := I.dr c
    by_cases c2 : d < 0
    · simp (disch := omega) only [f_X11_checkDoor, f_X11_checkDoor_22, ckH_y I c, jL, jJ, jI_lt, jI_le, jI_eq, jI_nat, jBt, jBo, gi_, gl_, x_let, if_pos, if_neg, if_true, Option.bind_some, tvz, tvo, wd_j, and_self, true_and, and_true, Int.toNat_zero, Int.toNat_natCast, xb_v, xb_e, isb0, isb1, gil, gl2, wd_i, wd_l, c_drs I c]
    · simp (disch := omega) only [f_X11_checkDoor, f_X11_checkDoor_22, ckH_y I c, jL, jJ, jI_lt, jI_le, jI_eq, jI_nat, jBt, jBo, gi_, gl_, x_let, if_pos, if_neg, if_true, Option.bind_some, tvz, tvo, wd_j, and_self, true_and, and_true, Int.toNat_zero, Int.toNat_natCast, xb_v, xb_e, isb0, isb1, gil, gl2, wd_i, wd_l, c_drs I c]
  · simp (disch := omega) only [f_X11_checkDoor, f_X11_checkDoor_22, ckH_n I rz c, jL, jJ, jI_lt, jI_le, jI_eq, jI_nat, jBt, jBo, gi_, gl_, x_let, if_pos, if_neg, if_true, Option.bind_some, tvz, tvo, wd_j, and_self, true_and, and_true, Int.toNat_zero, Int.toNat_natCast, xb_v, xb_e, isb0, isb1, gil, gl2, wd_i, wd_l]
theorem ckD_ry {gh : Nat} {x : Nat} {K : XK} {h : XH} (I : Inv gh x K h) {z d : Int} (hz : 0 ≤ z ∧ z < wd x h 0) (hd : 0 ≤ d ∧ d < wd x h (164 + 21 * z.toNat)) : f_X12_noDoor x h (jI z) (jI d) = some (jI 0) := by
  have h0 := I.w0
  have h2 := I.dr hz
  simp (disch := omega) only [f_X12_noDoor, f_X12_in, r_drs I hz, ckH_ry I hz, jL, jJ, jI_lt, jI_le, jI_eq, jI_nat, jBt, jBo, gi_, gl_, x_let, if_pos, if_neg, if_true, Option.bind_some, tvz, tvo, wd_j, and_self, true_and, and_true, Int.toNat_zero, Int.toNat_natCast, xb_v, xb_e, isb0, isb1, gil, gl2, wd_i, wd_l]
theorem ckD_rn {gh : Nat} {x : Nat} {K : XK} {h : XH} (I : Inv gh x K h) {z d : Int} (rz : -2147483648 ≤ z ∧ z < 2147483648) (rd : -2147483648 ≤ d ∧ d < 2147483648) (hz : ¬ ((0 ≤ z ∧ z < wd x h 0) ∧ 0 ≤ d ∧ d < wd x h (164 + 21 * z.toNat))) : f_X12_noDoor x h (jI z) (jI d) = some (jI 1) := by
  have h0 := I.w0
  by_cases c : 0 ≤ z ∧ z < wd x h 0
  · have h2 := I.dr c
    by_cases c2 : d < 0
    · simp (disch := omega) only [f_X12_noDoor, f_X12_in, r_drs I c, ckH_ry I c, jL, jJ, jI_lt, jI_le, jI_eq, jI_nat, jBt, jBo, gi_, gl_, x_let, if_pos, if_neg, if_true, Option.bind_some, tvz, tvo, wd_j, and_self, true_and, and_true, Int.toNat_zero, Int.toNat_natCast, xb_v, xb_e, isb0, isb1, gil, gl2, wd_i, wd_l]
    · simp (disch := omega) only [f_X12_noDoor, f_X12_in, r_drs I c, ckH_ry I c, jL, jJ, jI_lt, jI_le, jI_eq, jI_nat, jBt, jBo, gi_, gl_, x_let, if_pos, if_neg, if_true, Option.bind_some, tvz, tvo, wd_j, and_self, true_and, and_true, Int.toNat_zero, Int.toNat_natCast, xb_v, xb_e, isb0, isb1, gil, gl2, wd_i, wd_l]
  · simp (disch := omega) only [f_X12_noDoor, f_X12_noDoor_24, f_X12_in, ckH_rn I rz c, jL, jJ, jI_lt, jI_le, jI_eq, jI_nat, jBt, jBo, gi_, gl_, x_let, if_pos, if_neg, if_true, Option.bind_some, tvz, tvo, wd_j, and_self, true_and, and_true, Int.toNat_zero, Int.toNat_natCast, xb_v, xb_e, isb0, isb1, gil, gl2, wd_i, wd_l]
/-- look -/
theorem P_row7 {gh : Nat} {x : Nat} {K : XK} {h : XH} (I : Inv gh x K h) (a1 a2 a3 : Int32) : ∃ h', f_row7 x h a1 a2 a3 = some h' ∧ Inv gh x K h' := by
  obtain ⟨⟨w1, w2, w3, w4, w5, w6, w7, w8, w9, w10, w11, w12, w13, w14, w15, w16⟩, -⟩ := id I.1
  obtain ⟨⟨e1, e4, e6, e7, e8, e10, e12, e15⟩, -⟩ := id I.2.1
  obtain ⟨z1, z1a, z1b, rfl⟩ := jI_ex a1
  obtain ⟨z2, z2a, z2b, rfl⟩ := jI_ex a2
  obtain ⟨z3, z3a, z3b, rfl⟩ := jI_ex a3
  have e0 : ∀ b1 b2 b3, f_row7 x h b1 b2 b3 = rd_ x (x_lb (f_X11_look x h b1 b2 b3) [0, 1] (fun _ h => h)) (fun h => f_X12_look x h b1 b2 b3) := fun _ _ _ => rfl
  rw [e0]
  by_cases c : (0 ≤ z1 ∧ z1 < wd x h 0) ∧ 0 ≤ z2 ∧ z2 < wd x h (164 + 21 * z1.toNat)
  · obtain ⟨c1, c2⟩ := c
    have h20 := I.dr c1
    have cy := ckD_y I c1 c2
    by_cases d : 0 ≤ z3 ∧ z3 < 10
    · obtain ⟨d1, d2⟩ := d
      have eC : f_X11_look x h (jI z1) (jI z2) (jI z3) = some (.inr (), x_i h (x + 12) (20 * z1.toNat + z2.toNat) (jI z3)) := by
        have t : (z1 * 20 + z2).toNat = 20 * z1.toNat + z2.toNat := by omega
        simp (disch := omega) only [f_X11_look, cy, jL, jJ, jI_lt, jI_le, jI_eq, jI_nat, jBt, jBo, gi_, gl_, x_let, if_pos, if_neg, if_true, Option.bind_some, tvz, tvo, wd_j, and_self, true_and, and_true, Int.toNat_zero, Int.toNat_natCast, xb_v, xb_e, isb0, isb1, gil, gl2, wd_i, wd_l, t]
      have eR : ∀ H : XH, wd x H = wd x h → Inv gh x K H ∨ f_X12_noDoor x (x_i H (x + 64) 0 0) (jI z1) (jI z2) = some (jI 0) → f_X12_look x H (jI z1) (jI z2) (jI z3) = some (x_i (x_i H (x + 64) 0 (jI 0)) (x + 65) (165 + 21 * z1.toNat + z2.toNat) (jI z3)) := fun H eH hO => by
        have ry : f_X12_noDoor x (x_i H (x + 64) 0 (jI 0)) (jI z1) (jI z2) = some (jI 0) := by
          rcases hO with hO | hO
          · have ew : wd x (x_i H (x + 64) 0 (jI 0)) = wd x h := by funext k; rw [wd_i _ (by omega), eH]
            exact ckD_ry (hO.fr (Fr.m (by decide) (by decide) (by decide))) (by rw [ew]; exact c1) (by rw [ew]; exact c2)
          · exact hO
        have t : (164 + 21 * z1 + 1 + z2).toNat = 165 + 21 * z1.toNat + z2.toNat := by omega
        simp (disch := omega) only [f_X12_look, f_X12_in, ry, jL, jJ, jI_lt, jI_le, jI_eq, jI_nat, jBt, jBo, gi_, gl_, x_let, if_pos, if_neg, if_true, Option.bind_some, tvz, tvo, wd_j, and_self, true_and, and_true, Int.toNat_zero, Int.toNat_natCast, xb_v, xb_e, isb0, isb1, gil, gl2, wd_i, wd_l, t]
      obtain ⟨m1, hm1⟩ : ∃ m : Nat, z1 = m := ⟨z1.toNat, by omega⟩
      obtain ⟨m2, hm2⟩ : ∃ m : Nat, z2 = m := ⟨z2.toNat, by omega⟩
      subst hm1 hm2
      simp only [Int.toNat_natCast] at eC eR h20 c2
      have eW : wd x (x_i h (x + 12) (20 * m1 + m2) (jI z3)) = wd x h := by funext k; rw [wd_i _ (by omega)]
      refine ⟨_, rd_v eC (eR _ eW (Or.inr ?_)) (by simp (disch := omega) only [gi_n, gi_s]), ?_⟩
      · have n0 : h.1 (x + 65) 0 = jI (wd x h 0) := wd_j _ _ _
        have n1 : h.1 (x + 65) (164 + 21 * m1) = jI (wd x h (164 + 21 * m1)) := wd_j _ _ _
        have t : (164 + 21 * (m1 : Int)).toNat = 164 + 21 * m1 := by omega
        simp (disch := omega) only [f_X12_noDoor, f_X12_none, f_X12_doors, f_X12_in, jL, jJ, jI_lt, jI_le, jI_eq, jI_nat, jBt, jBo, gi_, gl_, x_let, if_pos, if_neg, if_true, Option.bind_some, tvz, tvo, and_self, true_and, and_true, Int.toNat_zero, Int.toNat_natCast, xb_v, xb_e, isb0, isb1, gil, gl2, wd_i, wd_l, n0, n1, t]
      refine I.sm (fun a _ _ _ _ _ _ _ _ => by simp (disch := omega) only [gi_n, gl_]) (fun j _ _ _ => by simp (disch := omega) only [gi_n, gi_k, gl_]) (by simp (disch := omega) only [gi_n, gi_k, gl_]) (by simp (disch := omega) only [gi_n, gi_k, gl_]) (by simp (disch := omega) only [gi_n, gi_k, gl_]) (by simp (disch := omega) only [gir, glr]) (fun k hk => by simp (disch := omega) only [wd_i, wd_l, wd_s, if_neg]) (fun j hj => by simp (disch := omega) only [wd_i, wd_l, wd_s, if_neg]) ?c4 ?c5 ?c6 ?s7 ?s12 ?s15 (I.sD (by simp (disch := omega) only [gi_n, gl_]) (fun k _ _ => by simp (disch := omega) only [wd_i, wd_l, wd_s, if_neg])) ?L (I.sM (by simp (disch := omega) only [gi_n, gl_]) (fun k hk => by simp (disch := omega) only [wd_i, wd_l, wd_s, if_neg])) (I.sN (by simp (disch := omega) only [gi_n, gl_]) (fun k _ _ => by simp (disch := omega) only [wd_i, wd_l, wd_s, if_neg])) (I.sW (by simp (disch := omega) only [gi_n, gl_]) (fun k hk => by simp (disch := omega) only [wd_i, wd_l, wd_s, if_neg]))
      case c4 => simp (disch := omega) only [wd_i, wd_l, wd_s, if_neg, gi_n, gi_k, gl_, e7, e12, e15]; omega
      case c5 => simp (disch := omega) only [wd_i, wd_l, wd_s, if_neg, gi_n, gi_k, gl_, e7, e12, e15]; omega
      case c6 => simp (disch := omega) only [wd_i, wd_l, wd_s, if_neg, gi_n, gi_k, gl_, e7, e12, e15]; omega
      case s7 => simp (disch := omega) only [wd_i, wd_l, wd_s, if_neg, gi_n, gi_k, gl_, e7, e12, e15]
      case s12 => simp (disch := omega) only [wd_i, wd_l, wd_s, if_neg, gi_n, gi_k, gl_, e7, e12, e15]
      case s15 => simp (disch := omega) only [wd_i, wd_l, wd_s, if_neg, gi_n, gi_k, gl_, e7, e12, e15]
      case L =>
        have n0 : wd x (x_i (x_i (x_i h (x + 12) (20 * m1 + m2) (jI z3)) (x + 64) 0 (jI 0)) (x + 65) (165 + 21 * m1 + m2) (jI z3)) 0 = wd x h 0 := by simp (disch := omega) only [wd_i, wd_l, wd_s, if_neg]
        have nd : ∀ j, j < 6 → wd x (x_i (x_i (x_i h (x + 12) (20 * m1 + m2) (jI z3)) (x + 64) 0 (jI 0)) (x + 65) (165 + 21 * m1 + m2) (jI z3)) (164 + 21 * j) = wd x h (164 + 21 * j) := fun j hj => by simp (disch := omega) only [wd_i, wd_l, wd_s, if_neg]
        have ew : ∀ j d, d < 20 → wd x (x_i (x_i (x_i h (x + 12) (20 * m1 + m2) (jI z3)) (x + 64) 0 (jI 0)) (x + 65) (165 + 21 * m1 + m2) (jI z3)) (165 + 21 * j + d) = if j = m1 ∧ d = m2 then z3 else wd x h (165 + 21 * j + d) := fun j d hd => by
          by_cases e : j = m1 ∧ d = m2
          · obtain ⟨rfl, rfl⟩ := e
            simp (disch := omega) only [wd_i, wd_l, wd_s, if_pos, if_true, and_self]
          · rw [if_neg e]
            simp (disch := omega) only [wd_i, wd_l, wd_s, if_neg]
        intro j hj
        rw [n0] at hj
        have hH := I.1.2.2.1 j hj
        refine ⟨fun d hd => ?_, fun d hd => ?_⟩
        · rw [ew j d hd]
          have := hH.2.2 d hd
          split <;> omega
        · rw [nd j (by omega)] at hd
          rw [ew j d (by omega)]
          by_cases e : j = m1 ∧ d = m2
          · obtain ⟨rfl, rfl⟩ := e
            simp (disch := omega) only [gi_n, gi_s, if_true, and_self]
          · rw [if_neg e]
            simp (disch := omega) only [gi_n, gi_k]
            exact (I.2.1.2.2.1 j hj).2 d hd
    · refine ⟨x_i (x_i h (x + 64) 0 (jI 0)) (x + 64) 0 (jI 2), rd_e (h1 := h) (e := 1) (j := 1) ?_ rfl ?_ ?_, I.fr fr_t⟩
      · by_cases d1 : z3 < 0
        · simp (disch := omega) only [f_X11_look, f_X11_look_16, cy, jL, jJ, jI_lt, jI_le, jI_eq, jI_nat, jBt, jBo, gi_, gl_, x_let, if_pos, if_neg, if_true, Option.bind_some, tvz, tvo, wd_j, and_self, true_and, and_true, Int.toNat_zero, Int.toNat_natCast, xb_v, xb_e, isb0, isb1, gil, gl2, wd_i, wd_l]
        · simp (disch := omega) only [f_X11_look, f_X11_look_16, cy, jL, jJ, jI_lt, jI_le, jI_eq, jI_nat, jBt, jBo, gi_, gl_, x_let, if_pos, if_neg, if_true, Option.bind_some, tvz, tvo, wd_j, and_self, true_and, and_true, Int.toNat_zero, Int.toNat_natCast, xb_v, xb_e, isb0, isb1, gil, gl2, wd_i, wd_l]
      · have ew : wd x (x_i h (x + 64) 0 (jI 0)) = wd x h := by funext k; rw [wd_i _ (by omega)]
        have ry := ckD_ry (I.fr (Fr.m (j := 0) (v := jI 0) (by decide) (by decide) (by decide))) (z := z1) (d := z2) (by rw [ew]; exact c1) (by rw [ew]; exact c2)
        by_cases d1 : z3 < 0
        · simp (disch := omega) only [f_X12_look, f_X12_in, ry, jL, jJ, jI_lt, jI_le, jI_eq, jI_nat, jBt, jBo, gi_, gl_, x_let, if_pos, if_neg, if_true, Option.bind_some, tvz, tvo, wd_j, and_self, true_and, and_true, Int.toNat_zero, Int.toNat_natCast, xb_v, xb_e, isb0, isb1, gil, gl2, wd_i, wd_l]
        · simp (disch := omega) only [f_X12_look, f_X12_in, ry, jL, jJ, jI_lt, jI_le, jI_eq, jI_nat, jBt, jBo, gi_, gl_, x_let, if_pos, if_neg, if_true, Option.bind_some, tvz, tvo, wd_j, and_self, true_and, and_true, Int.toNat_zero, Int.toNat_natCast, xb_v, xb_e, isb0, isb1, gil, gl2, wd_i, wd_l]
      · simp (disch := omega) only [gi_n, gi_s]; rfl
  · refine ⟨x_i (x_i h (x + 64) 0 (jI 0)) (x + 64) 0 (jI 1), rd_e (h1 := h) (e := 0) (j := 0) ?_ rfl ?_ ?_, I.fr fr_t⟩
    · simp (disch := omega) only [f_X11_look, ckD_n I ⟨z1a, z1b⟩ ⟨z2a, z2b⟩ c, jL, jJ, jI_lt, jI_le, jI_eq, jI_nat, jBt, jBo, gi_, gl_, x_let, if_pos, if_neg, if_true, Option.bind_some, tvz, tvo, wd_j, and_self, true_and, and_true, Int.toNat_zero, Int.toNat_natCast, xb_v, xb_e, isb0, isb1, gil, gl2, wd_i, wd_l]
    · have ew : wd x (x_i h (x + 64) 0 (jI 0)) = wd x h := by funext k; rw [wd_i _ (by omega)]
      have rn := ckD_rn (I.fr (Fr.m (j := 0) (v := jI 0) (by decide) (by decide) (by decide))) ⟨z1a, z1b⟩ ⟨z2a, z2b⟩ (by rw [ew]; exact c)
      simp (disch := omega) only [f_X12_look, f_X12_in, rn, jL, jJ, jI_lt, jI_le, jI_eq, jI_nat, jBt, jBo, gi_, gl_, x_let, if_pos, if_neg, if_true, Option.bind_some, tvz, tvo, wd_j, and_self, true_and, and_true, Int.toNat_zero, Int.toNat_natCast, xb_v, xb_e, isb0, isb1, gil, gl2, wd_i, wd_l]
    · simp (disch := omega) only [gi_n, gi_s]; rfl
theorem Inv.tp {gh : Nat} {x : Nat} {K : XK} {h h' : XH} (I : Inv gh x K h) (ha : ∀ a, a ≠ x + 1 → a ≠ x + 64 → h'.1 a = h.1 a) (m3 : h'.1 (x + 64) 3 = h.1 (x + 64) 3) (r : h'.2.2 = h.2.2) (ht : Tp_ x h') : Inv gh x K h' := by
  obtain ⟨hW, hS, hM, -⟩ := I
  have ew : wd x h' = wd x h := by
    funext k
    unfold wd
    rw [ha _ (by omega) (by omega)]
  have ej : wj x h' = wj x h := by
    funext k
    unfold wj
    rw [ha _ (by omega) (by omega)]
  refine ⟨by rw [ew]; exact hW, ?_, ?_, ht⟩
  · rw [ew]
    exact hS.c hW (fun _ _ _ _ _ _ => rfl) (fun r h1 _ a h2 _ => ha a (by omega) (by omega)) (fun a h1 h2 => ha a (by omega) (by omega)) (by rw [r]) (by rw [r]) (fun _ _ => rfl)
  rcases hM with ⟨q1, q2⟩ | ⟨r9, q1, q2, q3, q4, q5, q6⟩
  · exact Or.inl ⟨by rw [r]; exact q1, by rw [m3]; exact q2⟩
  · refine Or.inr ⟨r9, by rw [r]; exact q1, q2, q3, by rw [m3]; exact q4, by rw [ej]; exact q5, ?_⟩
    rw [ej]
    exact q6.c q5 (fun _ _ _ _ _ _ => rfl) (fun r h1 _ a h2 _ => ha a (by omega) (by omega)) (fun a h1 h2 => ha a (by omega) (by omega)) (by rw [r]) (by rw [r]) (fun _ _ => rfl)
/-- end -/
theorem P_row1 {gh : Nat} {x : Nat} {K : XK} {h : XH} (I : Inv gh x K h) (a1 : Int32) : ∃ h', f_row1 x h a1 = some h' ∧ Inv gh x K h' := by
  obtain ⟨z1, z1a, z1b, rfl⟩ := jI_ex a1
  obtain ⟨L, hL, t1, t2, t3, t4⟩ := id I.2.2.2
  by_cases c : 0 ≤ z1 ∧ z1 ≤ L
  · refine ⟨x_i (x_i (x_i h (x + 1) 1 (jI z1)) (x + 64) 0 (jI 0)) (x + 64) 5 (jI z1), ?_, ?_⟩
    · simp (disch := omega) only [f_row1, f_X11_end, f_X12_end, jL, jJ, jI_lt, jI_le, jI_eq, jI_nat, jBt, jBo, gi_, gl_, x_let, if_pos, if_neg, if_true, Option.bind_some, tvz, tvo, wd_j, and_self, true_and, and_true, Int.toNat_zero, Int.toNat_natCast, xb_v, xb_e, isb0, isb1, gil, gl2, wd_i, wd_l, t1, t2]
    · refine I.tp (fun a _ _ => by simp (disch := omega) only [gi_n]) (by simp (disch := omega) only [gi_n, gi_k]) rfl ⟨z1.toNat, by omega, ?_, ?_, ?_, fun k hk => ?_⟩
      · rw [show ((z1.toNat : Nat) : Int) = z1 by omega]
        simp (disch := omega) only [gi_n, gi_s]
      · rw [show ((z1.toNat : Nat) : Int) = z1 by omega]
        simp (disch := omega) only [gi_n, gi_s]
      · simp (disch := omega) only [gi_n, gi_k]; exact t3
      · simp (disch := omega) only [gi_n, gi_k]; exact t4 k (by omega)
  · refine ⟨x_i h (x + 64) 0 (jI 0), ?_, I.fr (Fr.m (by decide) (by decide) (by decide))⟩
    by_cases d1 : z1 < 0
    · simp (disch := omega) only [f_row1, f_X11_end, f_X11_end_15, f_X12_end, f_X12_end_17, jL, jJ, jI_lt, jI_le, jI_eq, jI_nat, jBt, jBo, gi_, gl_, x_let, if_pos, if_neg, if_true, Option.bind_some, tvz, tvo, wd_j, and_self, true_and, and_true, Int.toNat_zero, Int.toNat_natCast, xb_v, xb_e, isb0, isb1, gil, gl2, wd_i, wd_l, t1, t2]
    · simp (disch := omega) only [f_row1, f_X11_end, f_X11_end_15, f_X12_end, f_X12_end_17, jL, jJ, jI_lt, jI_le, jI_eq, jI_nat, jBt, jBo, gi_, gl_, x_let, if_pos, if_neg, if_true, Option.bind_some, tvz, tvo, wd_j, and_self, true_and, and_true, Int.toNat_zero, Int.toNat_natCast, xb_v, xb_e, isb0, isb1, gil, gl2, wd_i, wd_l, t1, t2]
