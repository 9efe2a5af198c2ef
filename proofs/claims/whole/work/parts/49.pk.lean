theorem c_packe {x : Nat} {K : XK} {h : XH} {z1 z2 z3 : Int} (r1 : -2147483648 ≤ z1 ∧ z1 < 2147483648) (r2 : -2147483648 ≤ z2 ∧ z2 < 2147483648) (r3 : -2147483648 ≤ z3 ∧ z3 < 2147483648) (bad : ¬ ((0 ≤ z1 ∧ z1 < 52) ∧ (1 ≤ z2 ∧ z2 < 52) ∧ z2 % 2 = 1 ∧ z2 % 13 ≠ 0 ∧ 3 ≤ z3 ∧ z3 ≤ 52)) : f_X11_pack K x h (jI z1) (jI z2) (jI z3) = some (.inl 1, h) := by
  by_cases d1 : z1 < 0
  · simp (disch := omega) only [f_X11_pack, f_X11_pack_28, f_X11_isStep, jL, jJ, jI_lt, jI_le, jI_eq, jI_nat, jBt, jBo, gl_, x_let, if_pos, if_neg, if_true, Option.bind_some, tvz, tvo, and_self, true_and, and_true, Int.toNat_zero, Int.toNat_natCast, xb_v, xb_e, isb0, isb1, gil, gl2, wd_i, wd_l]
  by_cases d2 : 52 ≤ z1
  · simp (disch := omega) only [f_X11_pack, f_X11_pack_28, f_X11_isStep, jL, jJ, jI_lt, jI_le, jI_eq, jI_nat, jBt, jBo, gl_, x_let, if_pos, if_neg, if_true, Option.bind_some, tvz, tvo, and_self, true_and, and_true, Int.toNat_zero, Int.toNat_natCast, xb_v, xb_e, isb0, isb1, gil, gl2, wd_i, wd_l]
  by_cases d3 : z2 < 1
  · simp (disch := omega) only [f_X11_pack, f_X11_pack_28, f_X11_isStep, jL, jJ, jI_lt, jI_le, jI_eq, jI_nat, jBt, jBo, gl_, x_let, if_pos, if_neg, if_true, Option.bind_some, tvz, tvo, and_self, true_and, and_true, Int.toNat_zero, Int.toNat_natCast, xb_v, xb_e, isb0, isb1, gil, gl2, wd_i, wd_l]
  by_cases d4 : 52 ≤ z2
  · simp (disch := omega) only [f_X11_pack, f_X11_pack_28, f_X11_isStep, jL, jJ, jI_lt, jI_le, jI_eq, jI_nat, jBt, jBo, gl_, x_let, if_pos, if_neg, if_true, Option.bind_some, tvz, tvo, and_self, true_and, and_true, Int.toNat_zero, Int.toNat_natCast, xb_v, xb_e, isb0, isb1, gil, gl2, wd_i, wd_l]
  have m2 := jI_rem (a := z2) (b := 2) (by omega) (by omega) (by omega) (by omega)
  have m13 := jI_rem (a := z2) (b := 13) (by omega) (by omega) (by omega) (by omega)
  by_cases d5 : z2 % 2 = 0
  · simp (disch := omega) only [f_X11_pack, f_X11_pack_28, f_X11_isStep, jL, jJ, jI_lt, jI_le, jI_eq, jI_nat, jBt, jBo, gl_, x_let, if_pos, if_neg, if_true, Option.bind_some, tvz, tvo, and_self, true_and, and_true, Int.toNat_zero, Int.toNat_natCast, xb_v, xb_e, isb0, isb1, gil, gl2, wd_i, wd_l, m2, m13]
  by_cases d6 : z2 % 13 = 0
  · simp (disch := omega) only [f_X11_pack, f_X11_pack_28, f_X11_isStep, jL, jJ, jI_lt, jI_le, jI_eq, jI_nat, jBt, jBo, gl_, x_let, if_pos, if_neg, if_true, Option.bind_some, tvz, tvo, and_self, true_and, and_true, Int.toNat_zero, Int.toNat_natCast, xb_v, xb_e, isb0, isb1, gil, gl2, wd_i, wd_l, m2, m13]
  by_cases d7 : z3 < 3
  · simp (disch := omega) only [f_X11_pack, f_X11_pack_28, f_X11_isStep, jL, jJ, jI_lt, jI_le, jI_eq, jI_nat, jBt, jBo, gl_, x_let, if_pos, if_neg, if_true, Option.bind_some, tvz, tvo, and_self, true_and, and_true, Int.toNat_zero, Int.toNat_natCast, xb_v, xb_e, isb0, isb1, gil, gl2, wd_i, wd_l, m2, m13]
  simp (disch := omega) only [f_X11_pack, f_X11_pack_28, f_X11_isStep, jL, jJ, jI_lt, jI_le, jI_eq, jI_nat, jBt, jBo, gl_, x_let, if_pos, if_neg, if_true, Option.bind_some, tvz, tvo, and_self, true_and, and_true, Int.toNat_zero, Int.toNat_natCast, xb_v, xb_e, isb0, isb1, gil, gl2, wd_i, wd_l, m2, m13]
theorem r_packc {H : XH} {z1 z2 z3 : Int} (r1 : -2147483648 ≤ z1 ∧ z1 < 2147483648) (r2 : -2147483648 ≤ z2 ∧ z2 < 2147483648) (r3 : -2147483648 ≤ z3 ∧ z3 < 2147483648) (bad : ¬ ((0 ≤ z1 ∧ z1 < 52) ∧ (1 ≤ z2 ∧ z2 < 52) ∧ z2 % 2 = 1 ∧ z2 % 13 ≠ 0 ∧ 3 ≤ z3 ∧ z3 ≤ 52)) : (if (f_X12_noCard H (jI z1)) = 0 then (if (f_X12_in H (jI z2) 1 51) = 0 then 1 else (if (x_rem (jI z2) 2) = 0 then 1 else (if (x_rem (jI z2) 13) = 0 then 1 else (if (f_X12_in H (jI z3) 3 52) = 0 then 1 else 0)))) else 1 : Int32) = jI 1 := by
  by_cases d1 : z1 < 0
  · simp (disch := omega) only [f_X12_noCard, f_X12_in, jL, jI_lt, jI_le, jI_eq, if_pos, if_neg, if_true]
  by_cases d2 : 52 ≤ z1
  · simp (disch := omega) only [f_X12_noCard, f_X12_in, jL, jI_lt, jI_le, jI_eq, if_pos, if_neg, if_true]
  by_cases d3 : z2 < 1
  · simp (disch := omega) only [f_X12_noCard, f_X12_in, jL, jI_lt, jI_le, jI_eq, if_pos, if_neg, if_true]
  by_cases d4 : 52 ≤ z2
  · simp (disch := omega) only [f_X12_noCard, f_X12_in, jL, jI_lt, jI_le, jI_eq, if_pos, if_neg, if_true]
  have m2 := jI_rem (a := z2) (b := 2) (by omega) (by omega) (by omega) (by omega)
  have m13 := jI_rem (a := z2) (b := 13) (by omega) (by omega) (by omega) (by omega)
  by_cases d5 : z2 % 2 = 0
  · simp (disch := omega) only [f_X12_noCard, f_X12_in, jL, jI_lt, jI_le, jI_eq, if_pos, if_neg, if_true, m2, m13]
  by_cases d6 : z2 % 13 = 0
  · simp (disch := omega) only [f_X12_noCard, f_X12_in, jL, jI_lt, jI_le, jI_eq, if_pos, if_neg, if_true, m2, m13]
  by_cases d7 : z3 < 3
  · simp (disch := omega) only [f_X12_noCard, f_X12_in, jL, jI_lt, jI_le, jI_eq, if_pos, if_neg, if_true, m2, m13]
  simp (disch := omega) only [f_X12_noCard, f_X12_in, jL, jI_lt, jI_le, jI_eq, if_pos, if_neg, if_true, m2, m13]
theorem r_packe {x : Nat} {h : XH} {z1 z2 z3 : Int} (r1 : -2147483648 ≤ z1 ∧ z1 < 2147483648) (r2 : -2147483648 ≤ z2 ∧ z2 < 2147483648) (r3 : -2147483648 ≤ z3 ∧ z3 < 2147483648) (bad : ¬ ((0 ≤ z1 ∧ z1 < 52) ∧ (1 ≤ z2 ∧ z2 < 52) ∧ z2 % 2 = 1 ∧ z2 % 13 ≠ 0 ∧ 3 ≤ z3 ∧ z3 ≤ 52)) : f_X12_pack x h (jI z1) (jI z2) (jI z3) = some (jI 0, x_i (x_i h (x + 64) 0 (jI 0)) (x + 64) 0 (jI 1)) := by
  unfold f_X12_pack
  simp only [x_let]
  rw [r_packc r1 r2 r3 bad, tvo, Option.bind_some, if_neg (fun e => absurd (show jI 1 = 0 from e) (by decide))]
  rfl
theorem c_pack {x : Nat} {K : XK} {h : XH} (T : x_T x K h) {p : Nat} {z1 z2 z3 : Int} (h8 : p < 8) (e4 : h.1 (x + 9) 4 = jI p) (c1 : 0 ≤ z1 ∧ z1 < 52) (c2 : 1 ≤ z2 ∧ z2 < 52) (c3 : z2 % 2 = 1) (c4 : z2 % 13 ≠ 0) (c5 : 3 ≤ z3 ∧ z3 ≤ 52) : f_X11_pack K x h (jI z1) (jI z2) (jI z3) = some (.inr (jI p), x_i (wr_ (x + 13 + 6 + 3 * p + 2) 0 (fun _ => -1) 52 (x_i (x_i (x_i (x_i h (x + 13 + 6 + 3 * p) 0 (jI z1)) (x + 13 + 6 + 3 * p) 1 (jI z2)) (x + 13 + 6 + 3 * p) 2 (jI z3)) (x + 13 + 6 + 3 * p) 3 (jI 0))) (x + 9) 4 (jI ((p : Int) + 1))) := by
  have m2 := jI_rem (a := z2) (b := 2) (by omega) (by omega) (by omega) (by omega)
  have m13 := jI_rem (a := z2) (b := 13) (by omega) (by omega) (by omega) (by omega)
  have hK : (K (x + 13 + 6 + 3 * p + 2)).2 = 52 := by
    have t := T.1 (21 + 3 * p) (by omega)
    rw [show x + (21 + 3 * p) = x + 13 + 6 + 3 * p + 2 by omega] at t
    have : x_ks[21 + 3 * p]? = some (14, 52) := by
      rcases (show p = 0 ∨ p = 1 ∨ p = 2 ∨ p = 3 ∨ p = 4 ∨ p = 5 ∨ p = 6 ∨ p = 7 by omega) with e | e | e | e | e | e | e | e <;> subst e <;> rfl
    rw [this] at t
    rw [Option.some.inj t]
  have fl := c_fill (K := K) (h := x_i (x_i (x_i (x_i h (x + 13 + 6 + 3 * p) 0 (jI z1)) (x + 13 + 6 + 3 * p) 1 (jI z2)) (x + 13 + 6 + 3 * p) 2 (jI z3)) (x + 13 + 6 + 3 * p) 3 (jI 0)) hK
  have st : f_X11_isStep h (jI z2) = jI 1 := by
    simp (disch := omega) only [f_X11_isStep, jL, jJ, jI_lt, jI_le, jI_eq, jI_nat, jBt, jBo, gl_, x_let, if_pos, if_neg, if_true, Option.bind_some, tvz, tvo, and_self, true_and, and_true, Int.toNat_zero, Int.toNat_natCast, xb_v, xb_e, isb0, isb1, gil, gl2, wd_i, wd_l, m2, m13]
  have bg : f_X2_begin K (x + 13 + 6 + 3 * p) h (jI z1) (jI z2) (jI z3) = some (wr_ (x + 13 + 6 + 3 * p + 2) 0 (fun _ => -1) 52 (x_i (x_i (x_i (x_i h (x + 13 + 6 + 3 * p) 0 (jI z1)) (x + 13 + 6 + 3 * p) 1 (jI z2)) (x + 13 + 6 + 3 * p) 2 (jI z3)) (x + 13 + 6 + 3 * p) 3 (jI 0))) := by
    unfold f_X2_begin
    simp only [x_let]
    have fl' : f_J7_fill_53178 K (x_i (x_i (x_i (x_i h (x + 13 + 6 + 3 * p) 0 (jI z1)) (x + 13 + 6 + 3 * p) 1 (jI z2)) (x + 13 + 6 + 3 * p) 2 (jI z3)) (x + 13 + 6 + 3 * p) 3 (jI 0)) ((x + 13 + 6 + 3 * p) + 2) (-1) = _ := fl
    rw [show (0 : Int32) = jI 0 from rfl, fl', Option.bind_some]
  have e4' : (wr_ (x + 13 + 6 + 3 * p + 2) 0 (fun _ => -1) 52 (x_i (x_i (x_i (x_i h (x + 13 + 6 + 3 * p) 0 (jI z1)) (x + 13 + 6 + 3 * p) 1 (jI z2)) (x + 13 + 6 + 3 * p) 2 (jI z3)) (x + 13 + 6 + 3 * p) 3 (jI 0))).1 (x + 9) 4 = jI p := by
    rw [wr_n (by omega), gi_n (by omega), gi_n (by omega), gi_n (by omega), gi_n (by omega), e4]
  simp (disch := omega) only [f_X11_pack, jL, jJ, jI_lt, jI_le, jI_eq, jI_nat, jBt, jBo, gl_, x_let, if_pos, if_neg, if_true, Option.bind_some, tvz, tvo, and_self, true_and, and_true, Int.toNat_zero, Int.toNat_natCast, xb_v, xb_e, isb0, isb1, gil, gl2, wd_i, wd_l, st, e4, bg, e4', gi_s]
  congr 4
  omega
theorem rq_pack {x : Nat} {H : XH} {p : Nat} {z1 z2 z3 : Int} (h8 : p < 8) (w1 : wd x H 1 = p) (c1 : 0 ≤ z1 ∧ z1 < 52) (c2 : 1 ≤ z2 ∧ z2 < 52) (c3 : z2 % 2 = 1) (c4 : z2 % 13 ≠ 0) (c5 : 3 ≤ z3 ∧ z3 ≤ 52) : f_X12_pack x H (jI z1) (jI z2) (jI z3) = some (jI p, x_i (x_i (x_i (x_i (x_i (wr_ (x + 65) (290 + 81 * p + 29) (fun _ => -1) 52 (wr_ (x + 65) (290 + 81 * p) (fun _ => 0) 81 (x_i (H) (x + 64) 0 (jI 0)))) (x + 65) (290 + 81 * p) (jI z1)) (x + 65) (290 + 81 * p + 1) (jI z2)) (x + 65) (290 + 81 * p + 2) (jI z3)) (x + 65) (290 + 81 * p + 6) (jI 1)) (x + 65) 1 (jI ((p : Int) + 1))) := by
  have m2 := jI_rem (a := z2) (b := 2) (by omega) (by omega) (by omega) (by omega)
  have m13 := jI_rem (a := z2) (b := 13) (by omega) (by omega) (by omega) (by omega)
  have eW : wd x (x_i H (x + 64) 0 (jI 0)) = wd x H := wm0
  have e1 : (x_i H (x + 64) 0 (jI 0)).1 (x + 65) 1 = jI p := by rw [wd_j, eW, w1]
  have t1 : (1 : Int).toNat = 1 := rfl
  have z := rq_zero (x := x) (H := x_i H (x + 64) 0 (jI 0)) (p := p) (z1 := z1) (z2 := z2) (z3 := z3) h8
  rw [rq_said h8 (by rw [wd_wo _ (by omega), eW, w1])] at z
  simp (disch := omega) only [f_X12_pack, f_X12_noCard, f_X12_in, jL, jJ, jI_lt, jI_le, jI_eq, jI_nat, jBt, jBo, gl_, x_let, if_pos, if_neg, if_true, Option.bind_some, tvz, tvo, and_self, true_and, and_true, Int.toNat_zero, Int.toNat_natCast, xb_v, xb_e, isb0, isb1, gil, gl2, wd_i, wd_l, m2, m13, e1, t1, z]
/-- pack -/
theorem P_row8 {gh : Nat} {x : Nat} {K : XK} {h : XH} (T : x_T x K h) (I : Inv gh x K h) (a1 a2 a3 : Int32) : ∃ h', f_row8 K x h a1 a2 a3 = some h' ∧ Inv gh x K h' := by
  obtain ⟨⟨w1, w2, w3, w4, w5, w6, w7, w8, w9, w10, w11, w12, w13, w14, w15, w16⟩, -⟩ := id I.1
  obtain ⟨⟨e1, e4, e6, e7, e8, e10, e12, e15⟩, -⟩ := id I.2.1
  obtain ⟨z1, z1a, z1b, rfl⟩ := jI_ex a1
  obtain ⟨z2, z2a, z2b, rfl⟩ := jI_ex a2
  obtain ⟨z3, z3a, z3b, rfl⟩ := jI_ex a3
  have e0 : ∀ b1 b2 b3, f_row8 K x h b1 b2 b3 = rc_ x (x_lb (f_X11_pack K x h b1 b2 b3) [1, 3] (fun v h => x_l h (x + 76) (0 : Int32).toNatClampNeg v.toInt64)) (fun h => f_X12_pack x h b1 b2 b3) := fun _ _ _ => rfl
  rw [e0]
  obtain ⟨p, hp⟩ : ∃ m : Nat, wd x h 1 = (m : Int) := ⟨(wd x h 1).toNat, by omega⟩
  rw [hp] at e4
  by_cases bad : (0 ≤ z1 ∧ z1 < 52) ∧ (1 ≤ z2 ∧ z2 < 52) ∧ z2 % 2 = 1 ∧ z2 % 13 ≠ 0 ∧ 3 ≤ z3 ∧ z3 ≤ 52
  · obtain ⟨c1, c2, c3, c4, c5⟩ := bad
    by_cases h8 : p < 8
    · refine ⟨_, rc_v (c_pack T h8 e4 c1 c2 c3 c4 c5) (rq_pack h8 ?_ c1 c2 c3 c4 c5) (by rw [gi_n (by omega), gi_n (by omega), gi_n (by omega), gi_n (by omega), gi_n (by omega), wr_n (by omega), wr_n (by omega), gi_s]; rfl) (by rw [gi_2, gi_2, gi_2, gi_2, gi_2, wr_2, wr_2]; rfl), I.pm hp h8 c1 c2 c3 c4 c5⟩
      rw [wd_l, wd_i _ (by omega)]
      unfold wd
      rw [wr_n (by omega), gi_n (by omega), gi_n (by omega), gi_n (by omega), gi_n (by omega)]
      exact hp
    · have m2 := jI_rem (a := z2) (b := 2) (by omega) (by omega) (by omega) (by omega)
      have m13 := jI_rem (a := z2) (b := 13) (by omega) (by omega) (by omega) (by omega)
      refine ⟨x_i (x_i h (x + 64) 0 (jI 0)) (x + 64) 0 (jI 2), rc_e (r := jI 0) (h1 := h) (e := 3) (j := 1) ?_ rfl (by decide) ?_ ?_, I.fr fr_t⟩
      · simp (disch := omega) only [f_X11_pack, f_X11_isStep, jL, jJ, jI_lt, jI_le, jI_eq, jI_nat, jBt, jBo, gl_, x_let, if_pos, if_neg, if_true, Option.bind_some, tvz, tvo, and_self, true_and, and_true, Int.toNat_zero, Int.toNat_natCast, xb_v, xb_e, isb0, isb1, gil, gl2, wd_i, wd_l, m2, m13, e4]
      · have e1' : (x_i h (x + 64) 0 (jI 0)).1 (x + 65) 1 = jI 8 := by rw [wd_j, wm0, show wd x h 1 = 8 by omega]
        have t1 : (1 : Int).toNat = 1 := rfl
        simp (disch := omega) only [f_X12_pack, f_X12_pack_82, f_X12_noCard, f_X12_in, jL, jJ, jI_lt, jI_le, jI_eq, jI_nat, jBt, jBo, gl_, x_let, if_pos, if_neg, if_true, Option.bind_some, tvz, tvo, and_self, true_and, and_true, Int.toNat_zero, Int.toNat_natCast, xb_v, xb_e, isb0, isb1, gil, gl2, wd_i, wd_l, m2, m13, e1', t1]
      · simp (disch := omega) only [gi_n, gi_s]; rfl
  · refine ⟨_, rc_e (hs := [1, 3]) (e := 1) (j := 0) (c_packe ⟨z1a, z1b⟩ ⟨z2a, z2b⟩ ⟨z3a, z3b⟩ bad) rfl (by decide) (r_packe ⟨z1a, z1b⟩ ⟨z2a, z2b⟩ ⟨z3a, z3b⟩ bad) ?_, I.fr fr_t⟩
    simp (disch := omega) only [gi_n, gi_s]; rfl
