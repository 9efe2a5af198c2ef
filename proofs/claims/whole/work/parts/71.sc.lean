/-! ===== score ===== -/
def rg_ (r b n s : Int) : Int := if s = 0 then r else if s = 1 then n - r - b else if s = 2 then b else if s = 3 then n else if s = 8 then (if r = n then 1 else 0) else 0
theorem rg_k {r b n : Int} (h1 : 0 ≤ r) (h2 : 0 ≤ b) (h3 : r + b ≤ n) (h4 : n ≤ 52) : gk_ true (rg_ r b n) := by
  have e8 : rg_ r b n 8 = 0 ∨ rg_ r b n 8 = 1 := by
    have e : rg_ r b n 8 = if r = n then 1 else 0 := by simp [rg_]
    rw [e]
    split <;> omega
  refine ⟨fun s s0 s1 s2 => ?_, e8, fun e => by cases e⟩
  rcases (show s = 8 ∨ s = 0 ∨ s = 1 ∨ s = 2 ∨ s = 3 by have := s2 rfl; omega) with e | e | e | e | e
  · subst e; omega
  · subst e; simp [rg_]; omega
  · subst e; simp [rg_]; omega
  · subst e; simp [rg_]; omega
  · subst e; simp [rg_]; omega
theorem Inv.rul {gh : Nat} {x : Nat} {K : XK} {h : XH} (I : Inv gh x K h) {t : Nat} (ht : (t : Int) < wd x h 3) : ∃ r, h.2.2 (x + 15) t = some r ∧ CTx x K h r (wd x h) (3523 + 851 * t) true := I.2.1.2.2.2.2.2.2.2.2.1 t ht
theorem Inv.wr {gh : Nat} {x : Nat} {K : XK} {h : XH} (I : Inv gh x K h) {t : Nat} (ht : (t : Int) < wd x h 3) : WTx (wd x h) (3523 + 851 * t) true := I.1.2.2.2.2.2.2.2.2.2 t ht
theorem Inv.w3 {gh : Nat} {x : Nat} {K : XK} {h : XH} (I : Inv gh x K h) : 0 ≤ wd x h 3 ∧ wd x h 3 ≤ 3 := ⟨I.1.1.2.2.2.2.2.2.1, I.1.1.2.2.2.2.2.2.2.1⟩
theorem c_sco {x r b : Nat} {K : XK} {h : XH} {w : Nat → Int} {ri bl n : Int} (c : CTx x K h r w b true) (hx : WTx w b true) (h1 : 0 ≤ ri) (h2 : 0 ≤ bl) (h3 : ri + bl ≤ n) (h4 : n ≤ 52) :
    ∃ hh, f_X9_scoreOf K x h (some r) (jI ri) (jI bl) (jI n) = some (lI (tl_ w b (rg_ ri bl n)), hh) ∧ (∀ a, a ≠ x + 44 → a ≠ x + 45 → hh.1 a = h.1 a) ∧ hh.2 = h.2 := by
  have hr := c.1
  generalize hH : x_i (x_i (x_i (x_i (x_i h (x + 44) 0 (jI ri)) (x + 44) 1 (jI (n - ri - bl))) (x + 44) 2 (jI bl)) (x + 44) 3 (jI n)) (x + 44) 4 (jI (if ri = n then 1 else 0)) = H
  have fH : ∀ a, a ≠ x + 44 → H.1 a = h.1 a := fun a ha => by rw [← hH]; simp only [gi_n ha]
  have c4 : CTx x K H r w b true := c.c ⟨hx.1, hx.2.1⟩ (fun _ _ _ => rfl) (fun a q1 _ => fH a (by omega)) (fun _ _ _ => rfl)
  have f4 : fx_ x H true (rg_ ri bl n) := fun s s0 s1 s2 => by
    rw [← hH]
    rcases (show s = 8 ∨ s = 0 ∨ s = 1 ∨ s = 2 ∨ s = 3 by have := s2 rfl; omega) with e | e | e | e | e <;> subst e <;> simp [rg_, gi_]
  obtain ⟨hh, g1, g2, g3⟩ := c_tell c4 hx f4 (rg_k h1 h2 h3 h4)
  refine ⟨hh, ?_, fun a n1 n2 => by rw [g2 a n2, fH a n1], by rw [g3, ← hH]; rfl⟩
  have ew : (if jI ri = jI n then (1 : Int32) else 0) = jI (if ri = n then 1 else 0) := by
    by_cases e : ri = n
    · rw [if_pos e, if_pos (by rw [e])]; rfl
    · rw [if_neg e, if_neg (fun q => e ((jI_eq (by omega) (by omega) (by omega) (by omega)).mp q))]; rfl
  have t0 : (0 : Int32).toNatClampNeg = 0 := rfl
  have t1 : (1 : Int32).toNatClampNeg = 1 := rfl
  have t2 : (2 : Int32).toNatClampNeg = 2 := rfl
  have t3 : (3 : Int32).toNatClampNeg = 3 := rfl
  have t4 : (4 : Int32).toNatClampNeg = 4 := rfl
  unfold f_X9_scoreOf
  rw [if_pos (by decide), xl_, t0, if_pos (by decide), xl_, t1, jI_sub, jI_sub, if_pos (by decide), xl_, t2, if_pos (by decide), xl_, t3, if_pos (by decide), xl_, t4, ew, hH, g1, Option.bind_some]
theorem r_sco {gh : Nat} {x : Nat} {K : XK} {h : XH} (I : Inv gh x K h) {t : Nat} (ht : (t : Int) < wd x h 3) {ri bl n : Int} (h1 : 0 ≤ ri) (h2 : 0 ≤ bl) (h3 : ri + bl ≤ n) (h4 : n ≤ 52) :
    ∃ hh, f_X12_scored x h (jI t) (jI n) (jI ri) (jI bl) = some (jI (tl_ (wd x h) (3523 + 851 * t) (rg_ ri bl n)), hh) ∧ (∀ a, a ≠ x + 69 → a ≠ x + 70 → hh.1 a = h.1 a) ∧ hh.2 = h.2 := by
  have w3 := I.w3
  generalize hH : x_i (x_i (x_i (x_i (x_i h (x + 69) 0 (jI ri)) (x + 69) 1 (jI (n - ri - bl))) (x + 69) 2 (jI bl)) (x + 69) 3 (jI n)) (x + 69) 8 (jI (if ri = n then 1 else 0)) = H
  have fH : ∀ a, a ≠ x + 69 → H.1 a = h.1 a := fun a ha => by rw [← hH]; simp only [gi_n ha]
  have F : Fr x h H := Fr.o1 fH (by rw [← hH]; rfl) (by decide)
  have hx := I.wr ht
  obtain ⟨hh, g1, g2, g3⟩ := r_told (x := x) (t := 3 + t) (b := 3523 + 851 * t) (h := H) (w := wd x h) (ru := true) (g := rg_ ri bl n) (by omega) (by omega) (fun q => by rw [wd_j, F.ew]) hx (fun s s0 s1 s2 => by
    rw [← hH]
    rcases (show s = 8 ∨ s = 0 ∨ s = 1 ∨ s = 2 ∨ s = 3 by have := s2 rfl; omega) with e | e | e | e | e <;> subst e <;> simp [rg_, gi_]) (rg_k h1 h2 h3 h4)
  refine ⟨hh, ?_, fun a n1 n2 => by rw [g2 a n2, fH a n1], by rw [g3, ← hH]; rfl⟩
  have ew : (if jI ri = jI n then (1 : Int32) else 0) = jI (if ri = n then 1 else 0) := by
    by_cases e : ri = n
    · rw [if_pos e, if_pos (by rw [e])]; rfl
    · rw [if_neg e, if_neg (fun q => e ((jI_eq (by omega) (by omega) (by omega) (by omega)).mp q))]; rfl
  have t0 : (0 : Int32).toNatClampNeg = 0 := rfl
  have t1 : (1 : Int32).toNatClampNeg = 1 := rfl
  have t2 : (2 : Int32).toNatClampNeg = 2 := rfl
  have t3 : (3 : Int32).toNatClampNeg = 3 := rfl
  have t8 : (8 : Int32).toNatClampNeg = 8 := rfl
  have a3 : (3 : Int32) + jI (t : Int) = jI ((3 + t : Nat) : Int) := by
    rw [show (3 : Int32) = jI 3 from rfl, jI_add]
    rfl
  unfold f_X12_scored
  rw [if_pos (by decide), xl_, t0, if_pos (by decide), xl_, t1, jI_sub, jI_sub, if_pos (by decide), xl_, t2, if_pos (by decide), xl_, t3, if_pos (by decide), xl_, t8, ew, hH, a3, g1, Option.bind_some]
theorem kn_2 {w : Nat → Int} {p n : Nat} : kn_ w p 0 n + kn_ w p 1 n ≤ n := by
  unfold kn_
  rw [← sm_p]
  have := sm_b (n := n) (f := fun i => (if kd_ w p i = 0 then (1 : Int) else 0) + (if kd_ w p i = 1 then 1 else 0)) (lo := 0) (hi := 1) (fun i _ => by split <;> split <;> omega)
  omega
theorem P_row21 {gh : Nat} {x : Nat} {K : XK} {h : XH} (I : Inv gh x K h) (a1 a2 : Int32) : ∃ h', f_row21 K x h a1 a2 = some h' ∧ Inv gh x K h' := by
  obtain ⟨z1, z1a, z1b, rfl⟩ := jI_ex a1
  obtain ⟨z2, z2a, z2b, rfl⟩ := jI_ex a2
  have e0 : ∀ b1 b2, f_row21 K x h b1 b2 = rc_ x (x_lb (f_X11_score K x h b1 b2) [0, 2] (fun v h => x_l h (x + 76) (0 : Int32).toNatClampNeg v.toInt64)) (fun h => f_X12_score x h b1 b2) := fun _ _ => rfl
  rw [e0]
  have h1 := I.w1
  have h2 := I.w3
  by_cases cL : 0 ≤ z1 ∧ z1 < wd x h 3
  · obtain ⟨t, rfl⟩ : ∃ t : Nat, z1 = t := ⟨z1.toNat, by omega⟩
    have ht := cL.2
    by_cases c : 0 ≤ z2 ∧ z2 < wd x h 1
    · obtain ⟨p, rfl⟩ : ∃ p : Nat, z2 = p := ⟨z2.toNat, by omega⟩
      have hp := c.2
      by_cases hq : 0 < wd x h (290 + 81 * p + 3)
      · obtain ⟨r, hr, ct⟩ := I.rul ht
        obtain ⟨-, -, -, -, -, -, p7, p8, -⟩ := I.wp hp
        have k3 := (I.pk hp).2.2.1
        have rg := c_rgt I hp
        have bg := c_blk I hp
        have ka := kn_b (w := wd x h) (p := p) (k := 0) (n := (wd x h (290 + 81 * p + 2)).toNat)
        have kb := kn_b (w := wd x h) (p := p) (k := 1) (n := (wd x h (290 + 81 * p + 2)).toNat)
        have kc := kn_2 (w := wd x h) (p := p) (n := (wd x h (290 + 81 * p + 2)).toNat)
        generalize hri : kn_ (wd x h) p 0 (wd x h (290 + 81 * p + 2)).toNat = ri at rg ka kc
        generalize hbl : kn_ (wd x h) p 1 (wd x h (290 + 81 * p + 2)).toNat = bl at bg kb kc
        have gk := rg_k (r := ri) (b := bl) (n := wd x h (290 + 81 * p + 2)) ka.1 kb.1 (by omega) p8
        have tb : -1198800000 ≤ tl_ (wd x h) (3523 + 851 * t) (rg_ ri bl (wd x h (290 + 81 * p + 2))) ∧ tl_ (wd x h) (3523 + 851 * t) (rg_ ri bl (wd x h (290 + 81 * p + 2))) ≤ 1198800000 := tl_b (n := (wd x h (3523 + 851 * t)).toNat) (I.wr ht) gk (by have := (I.wr ht).1; omega)
        obtain ⟨hh, g1, g2, g3⟩ := c_sco ct (I.wr ht) (ri := ri) (bl := bl) (n := wd x h (290 + 81 * p + 2)) ka.1 kb.1 (by omega) p8
        have lj := lI_j (z := tl_ (wd x h) (3523 + 851 * t) (rg_ ri bl (wd x h (290 + 81 * p + 2)))) (by omega) (by omega)
        refine rc_q I (res := .inr (jI (tl_ (wd x h) (3523 + 851 * t) (rg_ ri bl (wd x h (290 + 81 * p + 2)))))) ⟨hh, ?_, Fr.o2 g2 g3 (by decide) (by decide)⟩ (fun H J eH => ?_)
        · simp (disch := omega) only [f_X11_score, ckR_y I cL, ckT_y I hp hq, jL, jJ, jI_lt, jI_le, jI_eq, jI_nat, jBt, jBo, gi_, gl_, x_let, if_pos, if_neg, if_true, Option.bind_some, tvz, tvo, wd_j, and_self, true_and, and_true, Int.toNat_zero, Int.toNat_natCast, xb_v, xb_e, isb0, isb1, gil, gl2, wd_i, wd_l, rg, bg, k3, hr, g1, lj]
        · have ew : wd x (x_i H (x + 64) 0 (jI 0)) = wd x h := by rw [wm0, eH]
          have e1 := ckR_ry J.m0 (z := (t : Int)) (by rw [ew]; exact cL)
          have e2 := ckP_ry J.m0 (z := (p : Int)) (by rw [ew]; exact c)
          have e3 := r_isp J.m0 (p := p) (by rw [ew]; exact hp)
          rw [ew, if_pos hq] at e3
          have o2 := of_2 (x := x) (h := x_i H (x + 64) 0 (jI 0)) (p := p) (by omega)
          have q0 := r_kns J.m0 (p := p) (by rw [ew]; exact hp) (by rw [ew]; exact hq) (k := 0) (by omega)
          have q1 := r_kns J.m0 (p := p) (by rw [ew]; exact hp) (by rw [ew]; exact hq) (k := 1) (by omega)
          have rn := r_sco J.m0 (t := t) (by rw [ew]; exact ht) (ri := ri) (bl := bl) (n := wd x h (290 + 81 * p + 2)) ka.1 kb.1 (by omega) p8
          rw [ew] at rn o2 q0 q1
          rw [hri] at q0
          rw [hbl] at q1
          obtain ⟨H2, k1, k2, k3⟩ := rn
          refine ⟨_, H2, ?_, fr_0.tr (Fr.o2 k2 k3 (by decide) (by decide)), by rw [k3]; rfl, by rw [k2 _ (by omega) (by omega)]; exact gi_s, rfl⟩
          simp (disch := omega) only [f_X12_score, jL, jJ, jI_lt, jI_le, jI_eq, jI_nat, jBt, jBo, gi_, gl_, x_let, if_pos, if_neg, if_true, Option.bind_some, tvz, tvo, wd_j, and_self, true_and, and_true, Int.toNat_zero, Int.toNat_natCast, xb_v, xb_e, isb0, isb1, gil, gl2, wd_i, wd_l, e1, e2, e3, o2, q0, q1, k1]
      · refine rc_q I (res := .inl 2) ⟨h, ?_, Fr.rf⟩ (fun H J eH => ⟨jI 0, x_i (x_i H (x + 64) 0 (jI 0)) (x + 64) 0 (jI 2), ?_, fr_t, rfl, 1, rfl, by decide, gi_s⟩)
        · simp (disch := omega) only [f_X11_score, ckR_y I cL, ckT_n I hp hq, jL, jJ, jI_lt, jI_le, jI_eq, jI_nat, jBt, jBo, gi_, gl_, x_let, if_pos, if_neg, if_true, Option.bind_some, tvz, tvo, wd_j, and_self, true_and, and_true, Int.toNat_zero, Int.toNat_natCast, xb_v, xb_e, isb0, isb1, gil, gl2, wd_i, wd_l]
        · have ew : wd x (x_i H (x + 64) 0 (jI 0)) = wd x h := by rw [wm0, eH]
          have e1 := ckR_ry J.m0 (z := (t : Int)) (by rw [ew]; exact cL)
          have e2 := ckP_ry J.m0 (z := (p : Int)) (by rw [ew]; exact c)
          have e3 := r_isp J.m0 (p := p) (by rw [ew]; exact hp)
          rw [ew, if_neg hq] at e3
          simp (disch := omega) only [f_X12_score, f_X12_score_55, jL, jJ, jI_lt, jI_le, jI_eq, jI_nat, jBt, jBo, gi_, gl_, x_let, if_pos, if_neg, if_true, Option.bind_some, tvz, tvo, wd_j, and_self, true_and, and_true, Int.toNat_zero, Int.toNat_natCast, xb_v, xb_e, isb0, isb1, gil, gl2, wd_i, wd_l, e1, e2, e3]
    · refine rc_q I (res := .inl 0) ⟨h, ?_, Fr.rf⟩ (fun H J eH => ⟨jI 0, x_i (x_i H (x + 64) 0 (jI 0)) (x + 64) 0 (jI 1), ?_, fr_t, rfl, 0, rfl, by decide, gi_s⟩)
      · simp (disch := omega) only [f_X11_score, ckR_y I cL, ckT_e I ⟨z2a, z2b⟩ c, jL, jJ, jI_lt, jI_le, jI_eq, jI_nat, jBt, jBo, gi_, gl_, x_let, if_pos, if_neg, if_true, Option.bind_some, tvz, tvo, wd_j, and_self, true_and, and_true, Int.toNat_zero, Int.toNat_natCast, xb_v, xb_e, isb0, isb1, gil, gl2, wd_i, wd_l]
      · have ew : wd x (x_i H (x + 64) 0 (jI 0)) = wd x h := by rw [wm0, eH]
        have e1 := ckR_ry J.m0 (z := (t : Int)) (by rw [ew]; exact cL)
        have e2 := ckP_rn J.m0 ⟨z2a, z2b⟩ (by rw [ew]; exact c)
        simp (disch := omega) only [f_X12_score, f_X12_score_55, jL, jJ, jI_lt, jI_le, jI_eq, jI_nat, jBt, jBo, gi_, gl_, x_let, if_pos, if_neg, if_true, Option.bind_some, tvz, tvo, wd_j, and_self, true_and, and_true, Int.toNat_zero, Int.toNat_natCast, xb_v, xb_e, isb0, isb1, gil, gl2, wd_i, wd_l, e1, e2]
  · refine rc_q I (res := .inl 0) ⟨h, ?_, Fr.rf⟩ (fun H J eH => ⟨jI 0, x_i (x_i H (x + 64) 0 (jI 0)) (x + 64) 0 (jI 1), ?_, fr_t, rfl, 0, rfl, by decide, gi_s⟩)
    · simp (disch := omega) only [f_X11_score, ckR_n I ⟨z1a, z1b⟩ cL, jL, jJ, jI_lt, jI_le, jI_eq, jI_nat, jBt, jBo, gi_, gl_, x_let, if_pos, if_neg, if_true, Option.bind_some, tvz, tvo, wd_j, and_self, true_and, and_true, Int.toNat_zero, Int.toNat_natCast, xb_v, xb_e, isb0, isb1, gil, gl2, wd_i, wd_l]
    · have ew : wd x (x_i H (x + 64) 0 (jI 0)) = wd x h := by rw [wm0, eH]
      have e1 := ckR_rn J.m0 ⟨z1a, z1b⟩ (by rw [ew]; exact cL)
      simp (disch := omega) only [f_X12_score, f_X12_score_22, f_X12_score_27, f_X12_score_55, jL, jJ, jI_lt, jI_le, jI_eq, jI_nat, jBt, jBo, gi_, gl_, x_let, if_pos, if_neg, if_true, Option.bind_some, tvz, tvo, wd_j, and_self, true_and, and_true, Int.toNat_zero, Int.toNat_natCast, xb_v, xb_e, isb0, isb1, gil, gl2, wd_i, wd_l, e1]
