/-! ===== card, house ===== -/
theorem ckI_y {gh : Nat} {x : Nat} {K : XK} {h : XH} (I : Inv gh x K h) {p : Nat} {i : Int} (hp : (p : Int) < wd x h 1) (hi : 0 ≤ i ∧ i < wd x h (290 + 81 * p + 2)) : f_X11_checkPlaceIn x h (jI p) (jI i) = some (.inr (), h) := by
  have h1 := I.w1
  have e2 : h.1 (x + 13 + 6 + 3 * p) 2 = jI (wd x h (290 + 81 * p + 2)) := (I.pk hp).2.2.1
  obtain ⟨-, -, -, -, -, -, p7, p8, -⟩ := I.wp hp
  simp (disch := omega) only [f_X11_checkPlaceIn, ckP_y I (z := p) ⟨by omega, hp⟩, jL, jJ, jI_lt, jI_le, jI_eq, jI_nat, jBt, jBo, gi_, gl_, x_let, if_pos, if_neg, if_true, Option.bind_some, tvz, tvo, wd_j, and_self, true_and, and_true, Int.toNat_zero, Int.toNat_natCast, xb_v, xb_e, isb0, isb1, gil, gl2, wd_i, wd_l, e2]
theorem ckI_n {gh : Nat} {x : Nat} {K : XK} {h : XH} (I : Inv gh x K h) {z i : Int} (rz : -2147483648 ≤ z ∧ z < 2147483648) (ri : -2147483648 ≤ i ∧ i < 2147483648) (hz : ¬ ((0 ≤ z ∧ z < wd x h 1) ∧ 0 ≤ i ∧ i < wd x h (290 + 81 * z.toNat + 2))) : f_X11_checkPlaceIn x h (jI z) (jI i) = some (.inl 0, h) := by
  have h1 := I.w1
  by_cases c : 0 ≤ z ∧ z < wd x h 1
  · have hp : ((z.toNat : Nat) : Int) < wd x h 1 := by omega
    have e2 : h.1 (x + 13 + 6 + 3 * z.toNat) 2 = jI (wd x h (290 + 81 * z.toNat + 2)) := (I.pk hp).2.2.1
    obtain ⟨-, -, -, -, -, -, p7, p8, -⟩ := I.wp hp
    by_cases c2 : i < 0
    · simp (disch := omega) only [f_X11_checkPlaceIn, f_X11_checkPlaceIn_25, ckP_y I c, jL, jJ, jI_lt, jI_le, jI_eq, jI_nat, jBt, jBo, gi_, gl_, x_let, if_pos, if_neg, if_true, Option.bind_some, tvz, tvo, wd_j, and_self, true_and, and_true, Int.toNat_zero, Int.toNat_natCast, xb_v, xb_e, isb0, isb1, gil, gl2, wd_i, wd_l, e2]
    · simp (disch := omega) only [f_X11_checkPlaceIn, f_X11_checkPlaceIn_25, ckP_y I c, jL, jJ, jI_lt, jI_le, jI_eq, jI_nat, jBt, jBo, gi_, gl_, x_let, if_pos, if_neg, if_true, Option.bind_some, tvz, tvo, wd_j, and_self, true_and, and_true, Int.toNat_zero, Int.toNat_natCast, xb_v, xb_e, isb0, isb1, gil, gl2, wd_i, wd_l, e2]
  · simp (disch := omega) only [f_X11_checkPlaceIn, ckP_n I rz c, jL, jJ, jI_lt, jI_le, jI_eq, jI_nat, jBt, jBo, gi_, gl_, x_let, if_pos, if_neg, if_true, Option.bind_some, tvz, tvo, wd_j, and_self, true_and, and_true, Int.toNat_zero, Int.toNat_natCast, xb_v, xb_e, isb0, isb1, gil, gl2, wd_i, wd_l]
theorem ckI_ry {gh : Nat} {x : Nat} {K : XK} {h : XH} (I : Inv gh x K h) {p : Nat} {i : Int} (hp : (p : Int) < wd x h 1) (hi : 0 ≤ i ∧ i < wd x h (290 + 81 * p + 2)) : f_X12_noPlace x h (jI p) (jI i) = some (jI 0) := by
  have h1 := I.w1
  obtain ⟨-, -, -, -, -, -, p7, p8, -⟩ := I.wp hp
  have o2 := of_2 (x := x) (h := h) (p := p) (by omega)
  simp (disch := omega) only [f_X12_noPlace, f_X12_in, ckP_ry I (z := p) ⟨by omega, hp⟩, jL, jJ, jI_lt, jI_le, jI_eq, jI_nat, jBt, jBo, gi_, gl_, x_let, if_pos, if_neg, if_true, Option.bind_some, tvz, tvo, wd_j, and_self, true_and, and_true, Int.toNat_zero, Int.toNat_natCast, xb_v, xb_e, isb0, isb1, gil, gl2, wd_i, wd_l, o2]
theorem ckI_rn {gh : Nat} {x : Nat} {K : XK} {h : XH} (I : Inv gh x K h) {z i : Int} (rz : -2147483648 ≤ z ∧ z < 2147483648) (ri : -2147483648 ≤ i ∧ i < 2147483648) (hz : ¬ ((0 ≤ z ∧ z < wd x h 1) ∧ 0 ≤ i ∧ i < wd x h (290 + 81 * z.toNat + 2))) : f_X12_noPlace x h (jI z) (jI i) = some (jI 1) := by
  have h1 := I.w1
  by_cases c : 0 ≤ z ∧ z < wd x h 1
  · obtain ⟨p, rfl⟩ : ∃ p : Nat, z = p := ⟨z.toNat, by omega⟩
    rw [Int.toNat_natCast] at hz
    have hp := c.2
    obtain ⟨-, -, -, -, -, -, p7, p8, -⟩ := I.wp hp
    have o2 := of_2 (x := x) (h := h) (p := p) (by omega)
    by_cases c2 : i < 0
    · simp (disch := omega) only [f_X12_noPlace, f_X12_in, ckP_ry I c, jL, jJ, jI_lt, jI_le, jI_eq, jI_nat, jBt, jBo, gi_, gl_, x_let, if_pos, if_neg, if_true, Option.bind_some, tvz, tvo, wd_j, and_self, true_and, and_true, Int.toNat_zero, Int.toNat_natCast, xb_v, xb_e, isb0, isb1, gil, gl2, wd_i, wd_l, o2]
    · simp (disch := omega) only [f_X12_noPlace, f_X12_in, ckP_ry I c, jL, jJ, jI_lt, jI_le, jI_eq, jI_nat, jBt, jBo, gi_, gl_, x_let, if_pos, if_neg, if_true, Option.bind_some, tvz, tvo, wd_j, and_self, true_and, and_true, Int.toNat_zero, Int.toNat_natCast, xb_v, xb_e, isb0, isb1, gil, gl2, wd_i, wd_l, o2]
  · simp (disch := omega) only [f_X12_noPlace, f_X12_noPlace_24, ckP_rn I rz c, jL, jJ, jI_lt, jI_le, jI_eq, jI_nat, jBt, jBo, gi_, gl_, x_let, if_pos, if_neg, if_true, Option.bind_some, tvz, tvo, wd_j, and_self, true_and, and_true, Int.toNat_zero, Int.toNat_natCast, xb_v, xb_e, isb0, isb1, gil, gl2, wd_i, wd_l]
theorem ckT_y {gh : Nat} {x : Nat} {K : XK} {h : XH} (I : Inv gh x K h) {p : Nat} (hp : (p : Int) < wd x h 1) (hq : 0 < wd x h (290 + 81 * p + 3)) : f_X11_checkPut x h (jI p) = some (.inr (), h) := by
  have h1 := I.w1
  have e3 : h.1 (x + 13 + 6 + 3 * p) 3 = jI 1 := by rw [(I.pk hp).2.2.2.1, if_pos hq]
  simp (disch := omega) only [f_X11_checkPut, ckP_y I (z := p) ⟨by omega, hp⟩, jL, jJ, jI_lt, jI_le, jI_eq, jI_nat, jBt, jBo, gi_, gl_, x_let, if_pos, if_neg, if_true, Option.bind_some, tvz, tvo, wd_j, and_self, true_and, and_true, Int.toNat_zero, Int.toNat_natCast, xb_v, xb_e, isb0, isb1, gil, gl2, wd_i, wd_l, e3]
theorem ckT_n {gh : Nat} {x : Nat} {K : XK} {h : XH} (I : Inv gh x K h) {p : Nat} (hp : (p : Int) < wd x h 1) (hq : ¬ 0 < wd x h (290 + 81 * p + 3)) : f_X11_checkPut x h (jI p) = some (.inl 2, h) := by
  have h1 := I.w1
  have e3 : h.1 (x + 13 + 6 + 3 * p) 3 = jI 0 := by rw [(I.pk hp).2.2.2.1, if_neg hq]
  simp (disch := omega) only [f_X11_checkPut, ckP_y I (z := p) ⟨by omega, hp⟩, jL, jJ, jI_lt, jI_le, jI_eq, jI_nat, jBt, jBo, gi_, gl_, x_let, if_pos, if_neg, if_true, Option.bind_some, tvz, tvo, wd_j, and_self, true_and, and_true, Int.toNat_zero, Int.toNat_natCast, xb_v, xb_e, isb0, isb1, gil, gl2, wd_i, wd_l, e3]
theorem Inv.m0 {gh : Nat} {x : Nat} {K : XK} {h : XH} (I : Inv gh x K h) : Inv gh x K (x_i h (x + 64) 0 (jI 0)) := I.fr (Fr.m (by decide) (by decide) (by decide))
theorem wm0 {x : Nat} {h : XH} {j : Nat} {v : Int32} : wd x (x_i h (x + 64) j v) = wd x h := by
  funext k
  exact wd_i k (by omega)
theorem fr_0 {x : Nat} {h : XH} {v : Int32} : Fr x h (x_i h (x + 64) 0 v) := Fr.m (by decide) (by decide) (by decide)
/-- card -/
theorem P_row9 {gh : Nat} {x : Nat} {K : XK} {h : XH} (I : Inv gh x K h) (a1 a2 : Int32) : ∃ h', f_row9 x h a1 a2 = some h' ∧ Inv gh x K h' := by
  obtain ⟨z1, z1a, z1b, rfl⟩ := jI_ex a1
  obtain ⟨z2, z2a, z2b, rfl⟩ := jI_ex a2
  have e0 : ∀ b1 b2, f_row9 x h b1 b2 = rc_ x (x_lb (f_X11_card x h b1 b2) [0] (fun v h => x_l h (x + 76) (0 : Int32).toNatClampNeg v.toInt64)) (fun h => f_X12_card x h b1 b2) := fun _ _ => rfl
  rw [e0]
  have h1 := I.w1
  by_cases c : (0 ≤ z1 ∧ z1 < wd x h 1) ∧ 0 ≤ z2 ∧ z2 < wd x h (290 + 81 * z1.toNat + 2)
  · obtain ⟨c1, c2⟩ := c
    obtain ⟨p, rfl⟩ : ∃ p : Nat, z1 = p := ⟨z1.toNat, by omega⟩
    rw [Int.toNat_natCast] at c2
    have hp := c1.2
    obtain ⟨-, -, -, -, -, -, p7, p8, -⟩ := I.wp hp
    refine rc_q I (res := .inr (jI (cd_ (wd x h) p z2))) ⟨h, ?_, Fr.rf⟩ (fun H J eH => ⟨jI (cd_ (wd x h) p z2), x_i H (x + 64) 0 (jI 0), ?_, fr_0, rfl, gi_s, rfl⟩)
    · have e := c_card I hp (i := z2) (by omega)
      simp (disch := omega) only [f_X11_card, ckI_y I hp c2, jL, jJ, jI_lt, jI_le, jI_eq, jI_nat, jBt, jBo, gi_, gl_, x_let, if_pos, if_neg, if_true, Option.bind_some, tvz, tvo, wd_j, and_self, true_and, and_true, Int.toNat_zero, Int.toNat_natCast, xb_v, xb_e, isb0, isb1, gil, gl2, wd_i, wd_l, e]
    · have ew : wd x (x_i H (x + 64) 0 (jI 0)) = wd x h := by rw [wm0, eH]
      have e1 := ckI_ry J.m0 (p := p) (i := z2) (by rw [ew]; exact hp) (by rw [ew]; exact c2)
      have e2 := r_card J.m0 (p := p) (i := z2) (by rw [ew]; exact hp) (by omega)
      rw [ew] at e2
      simp (disch := omega) only [f_X12_card, jL, jJ, jI_lt, jI_le, jI_eq, jI_nat, jBt, jBo, gi_, gl_, x_let, if_pos, if_neg, if_true, Option.bind_some, tvz, tvo, wd_j, and_self, true_and, and_true, Int.toNat_zero, Int.toNat_natCast, xb_v, xb_e, isb0, isb1, gil, gl2, wd_i, wd_l, e1, e2]
  · refine rc_q I (res := .inl 0) ⟨h, ?_, Fr.rf⟩ (fun H J eH => ⟨jI 0, x_i (x_i H (x + 64) 0 (jI 0)) (x + 64) 0 (jI 1), ?_, fr_t, rfl, 0, rfl, by decide, gi_s⟩)
    · simp (disch := omega) only [f_X11_card, ckI_n I ⟨z1a, z1b⟩ ⟨z2a, z2b⟩ c, jL, jJ, jI_lt, jI_le, jI_eq, jI_nat, jBt, jBo, gi_, gl_, x_let, if_pos, if_neg, if_true, Option.bind_some, tvz, tvo, wd_j, and_self, true_and, and_true, Int.toNat_zero, Int.toNat_natCast, xb_v, xb_e, isb0, isb1, gil, gl2, wd_i, wd_l]
    · have ew : wd x (x_i H (x + 64) 0 (jI 0)) = wd x h := by rw [wm0, eH]
      have e1 := ckI_rn J.m0 ⟨z1a, z1b⟩ ⟨z2a, z2b⟩ (by rw [ew]; exact c)
      simp (disch := omega) only [f_X12_card, jL, jJ, jI_lt, jI_le, jI_eq, jI_nat, jBt, jBo, gi_, gl_, x_let, if_pos, if_neg, if_true, Option.bind_some, tvz, tvo, wd_j, and_self, true_and, and_true, Int.toNat_zero, Int.toNat_natCast, xb_v, xb_e, isb0, isb1, gil, gl2, wd_i, wd_l, e1]
/-! house -/
/-- n looks, one after another -/
def li_ (a b : Nat) : Nat → XH → XH
  | 0, h => h
  | n + 1, h => x_i (li_ a b n h) a (b + n) (jI ((n : Int) % 10))
theorem li_n {a b n : Nat} {h : XH} {q : Nat} (hq : q ≠ a) : (li_ a b n h).1 q = h.1 q := by
  induction n with
  | zero => rfl
  | succ n ih => exact (x_i_ne hq).trans ih
theorem li_2 {a b n : Nat} {h : XH} : (li_ a b n h).2 = h.2 := by
  induction n with
  | zero => rfl
  | succ n ih => exact ih
theorem li_i {a b n : Nat} {h : XH} {k : Nat} (hk : k < n) : (li_ a b n h).1 a (b + k) = jI ((k : Int) % 10) := by
  induction n with
  | zero => omega
  | succ n ih =>
    show (x_i (li_ a b n h) a (b + n) _).1 a (b + k) = _
    by_cases e : k = n
    · subst e; exact gi_s
    · rw [gi_k (by omega)]; exact ih (by omega)
theorem li_o {a b n : Nat} {h : XH} {k : Nat} (hk : k < b ∨ b + n ≤ k) : (li_ a b n h).1 a k = h.1 a k := by
  induction n with
  | zero => rfl
  | succ n ih =>
    show (x_i (li_ a b n h) a (b + n) _).1 a k = _
    rw [gi_k (by omega)]
    exact ih (by omega)
theorem c_addH {x : Nat} {h : XH} {M n : Nat} (hM : M < 6) (hn : n ≤ 20) (e1 : h.1 (x + 9) 1 = jI M) : f_X7_addHouse (x + 9) h (jI n) = some (jI M, x_i (li_ (x + 12) (20 * M) n (x_i h (x + 11) M (jI n))) (x + 9) 1 (jI ((M : Int) + 1))) := by
  have a3 : x + 9 + 3 = x + 12 := rfl
  have a2 : x + 9 + 2 = x + 11 := rfl
  have e9 : ∀ i, (li_ (x + 12) (20 * M) i (x_i h (x + 11) M (jI n))).1 (x + 9) 1 = jI M := fun i => by rw [li_n (by omega), gi_n (by omega), e1]
  have key := x_up0 (P := fun m i => f_X7_addHouse_12 (x + 9) m (li_ (x + 12) (20 * M) i (x_i h (x + 11) M (jI n))) (jI n) (jI (i : Int)) = some (jI M, x_i (li_ (x + 12) (20 * M) n (x_i h (x + 11) M (jI n))) (x + 9) 1 (jI ((M : Int) + 1)))) n (by omega) (fun m => by
    simp (disch := omega) only [f_X7_addHouse_12, jL, jJ, jI_lt, jI_le, jI_eq, jI_nat, jBt, jBo, gi_, gl_, x_let, if_pos, if_neg, if_true, Option.bind_some, tvz, tvo, and_self, true_and, and_true, Int.toNat_zero, Int.toNat_natCast, xb_v, xb_e, isb0, isb1, gil, gl2, wd_i, wd_l, e9]
    congr 3
    omega) (fun m i hi ih => by
    have t : ((M : Int) * 20 + i).toNat = 20 * M + i := by omega
    have r := jI_rem (a := i) (b := 10) (by omega) (by omega) (by omega) (by omega)
    have ih' : f_X7_addHouse_12 (x + 9) m (x_i (li_ (x + 12) (20 * M) i (x_i h (x + 11) M (jI n))) (x + 12) (20 * M + i) (jI ((i : Int) % 10))) (jI n) (jI ((i : Int) + 1)) = _ := ih
    simp (disch := omega) only [f_X7_addHouse_12, jL, jJ, jI_lt, jI_le, jI_eq, jI_nat, jBt, jBo, gi_, gl_, x_let, if_pos, if_neg, if_true, Option.bind_some, tvz, tvo, and_self, true_and, and_true, Int.toNat_zero, Int.toNat_natCast, xb_v, xb_e, isb0, isb1, gil, gl2, wd_i, wd_l, e9, a3, t, r, ih'])
  have key' : f_X7_addHouse_12 (x + 9) x_FU (x_i h (x + 11) M (jI n)) (jI n) (jI 0) = _ := key
  simp (disch := omega) only [f_X7_addHouse, jL, jJ, jI_lt, jI_le, jI_eq, jI_nat, jBt, jBo, gi_, gl_, x_let, if_pos, if_neg, if_true, Option.bind_some, tvz, tvo, and_self, true_and, and_true, Int.toNat_zero, Int.toNat_natCast, xb_v, xb_e, isb0, isb1, gil, gl2, wd_i, wd_l, e1, a2, key']
theorem r_addH {x : Nat} {h : XH} {M : Nat} (hM : M < 6) (e1 : h.1 (x + 65) 0 = jI M) : f_X12_house_77 x x_FU h (jI M) (jI 0) = some (jI M, x_i (li_ (x + 65) (165 + 21 * M) 20 h) (x + 65) 0 (jI ((M : Int) + 1))) := by
  have e9 : ∀ i, (li_ (x + 65) (165 + 21 * M) i h).1 (x + 65) 0 = jI M := fun i => by rw [li_o (by omega), e1]
  exact x_up0 (P := fun m i => f_X12_house_77 x m (li_ (x + 65) (165 + 21 * M) i h) (jI M) (jI (i : Int)) = some (jI M, x_i (li_ (x + 65) (165 + 21 * M) 20 h) (x + 65) 0 (jI ((M : Int) + 1)))) 20 (by omega) (fun m => by
    simp (disch := omega) only [f_X12_house_77, jL, jJ, jI_lt, jI_le, jI_eq, jI_nat, jBt, jBo, gi_, gl_, x_let, if_pos, if_neg, if_true, Option.bind_some, tvz, tvo, and_self, true_and, and_true, Int.toNat_zero, Int.toNat_natCast, xb_v, xb_e, isb0, isb1, gil, gl2, wd_i, wd_l, e9]) (fun m i hi ih => by
    have t : (164 + 21 * (M : Int) + 1 + i).toNat = 165 + 21 * M + i := by omega
    have r := jI_rem (a := i) (b := 10) (by omega) (by omega) (by omega) (by omega)
    have ih' : f_X12_house_77 x m (x_i (li_ (x + 65) (165 + 21 * M) i h) (x + 65) (165 + 21 * M + i) (jI ((i : Int) % 10))) (jI M) (jI ((i : Int) + 1)) = _ := ih
    simp (disch := omega) only [f_X12_house_77, jL, jJ, jI_lt, jI_le, jI_eq, jI_nat, jBt, jBo, gi_, gl_, x_let, if_pos, if_neg, if_true, Option.bind_some, tvz, tvo, and_self, true_and, and_true, Int.toNat_zero, Int.toNat_natCast, xb_v, xb_e, isb0, isb1, gil, gl2, wd_i, wd_l, t, r, ih'])
