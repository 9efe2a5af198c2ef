/-! ===== a row out of what both sides answer ===== -/
def rc_ (x : Nat) (oL : Option (Int32 × XH)) (kR : XH → Option (Int32 × XH)) : Option XH := Option.bind oL (fun q1 => Option.bind (kR q1.2) (fun q2 => if (f_X12_thrown x q2.2) = q1.1 then if q1.1 = 0 then if x_b 0 1 = true then if (lg_cmp (q2.2.2.1 (x + 76) (0 : Int32).toNatClampNeg) q2.1.toInt64) = 0 then some q2.2 else none else none else some q2.2 else none))
theorem rc_v {x : Nat} {oC : Option ((Nat ⊕ Int32) × XH)} {hs : List Nat} {kR : XH → Option (Int32 × XH)} {v : Int32} {h1 h2 : XH} (hC : oC = some (.inr v, h1)) (hR : kR (x_l h1 (x + 76) (0 : Int32).toNatClampNeg v.toInt64) = some (v, h2)) (ht : h2.1 (x + 64) 0 = 0) (ho : h2.2 = (x_l h1 (x + 76) (0 : Int32).toNatClampNeg v.toInt64).2) :
    rc_ x (x_lb oC hs (fun v h => x_l h (x + 76) (0 : Int32).toNatClampNeg v.toInt64)) kR = some h2 := by
  subst hC
  have e : h2.2.1 (x + 76) (0 : Int32).toNatClampNeg = v.toInt64 := by rw [ho, gl2, if_pos ⟨rfl, rfl⟩]
  simp only [rc_, lb_v, Option.bind_some, hR, f_X12_thrown, ht, if_true, e, cmp_s]
  rfl
theorem rc_e {x : Nat} {oC : Option ((Nat ⊕ Int32) × XH)} {hs : List Nat} {kR : XH → Option (Int32 × XH)} {k : Int32 → XH → XH} {e j : Nat} {r : Int32} {h1 h2 : XH} (hC : oC = some (.inl e, h1)) (hj : hs.idxOf? e = some j) (hl : j < 5) (hR : kR h1 = some (r, h2)) (ht : h2.1 (x + 64) 0 = nI (j + 1)) :
    rc_ x (x_lb oC hs k) kR = some h2 := by
  subst hC
  have hn : ¬ nI (j + 1) = 0 := nI_ne0 (by omega) (by omega)
  simp only [rc_, lb_e hj, Option.bind_some, hR, f_X12_thrown, ht, if_true, if_neg hn]
/-- what a row must find of the reference, if the component answered so -/
def rs_ (x : Nat) (hs : List Nat) (res : Nat ⊕ Int32) (r : Int32) (h2 : XH) : Prop := match res with
  | .inl e => ∃ j, hs.idxOf? e = some j ∧ j < 5 ∧ h2.1 (x + 64) 0 = nI (j + 1)
  | .inr v => h2.1 (x + 64) 0 = 0 ∧ r = v
/-- a row that only asks -/
theorem rc_q {gh : Nat} {x : Nat} {K : XK} {h : XH} {oC : Option ((Nat ⊕ Int32) × XH)} {hs : List Nat} {kR : XH → Option (Int32 × XH)} {res : Nat ⊕ Int32} (I : Inv gh x K h) (hC : ∃ h1, oC = some (res, h1) ∧ Fr x h h1)
    (hR : ∀ h', Inv gh x K h' → wd x h' = wd x h → ∃ r h2, kR h' = some (r, h2) ∧ Fr x h' h2 ∧ h2.2 = h'.2 ∧ rs_ x hs res r h2) :
    ∃ h', rc_ x (x_lb oC hs (fun v h => x_l h (x + 76) (0 : Int32).toNatClampNeg v.toInt64)) kR = some h' ∧ Inv gh x K h' := by
  obtain ⟨h1, hC, f1⟩ := hC
  cases res with
  | inl e =>
    obtain ⟨r, h2, q1, q2, q3, j, q4, q5, q6⟩ := hR h1 (I.fr f1) f1.ew
    exact ⟨h2, rc_e hC q4 q5 q1 q6, I.fr (f1.tr q2)⟩
  | inr v =>
    have f2 : Fr x h (x_l h1 (x + 76) (0 : Int32).toNatClampNeg v.toInt64) := f1.tr Fr.l
    obtain ⟨r, h2, q1, q2, q3, q4, q5⟩ := hR _ (I.fr f2) f2.ew
    subst q5
    exact ⟨h2, rc_v hC q1 q4 q3, I.fr (f2.tr q2)⟩
/-! ===== the checks ===== -/
theorem xb_v {α β : Type} {v : α} {h : XH} {k : α → XH → Option ((Nat ⊕ β) × XH)} : x_xb (some (.inr v, h)) k = k v h := rfl
theorem xb_e {α β : Type} {e : Nat} {h : XH} {k : α → XH → Option ((Nat ⊕ β) × XH)} : x_xb (α := α) (some (.inl e, h)) k = some (.inl e, h) := rfl
theorem isb0 : (x_isb (jI 0) = true) = True := eq_true (by decide)
theorem isb1 : (x_isb (jI 1) = true) = True := eq_true (by decide)
theorem ckL_y {gh : Nat} {x : Nat} {K : XK} {h : XH} (I : Inv gh x K h) {z : Int} (hz : 0 ≤ z ∧ z < wd x h 2) : f_X11_checkLaw x h (jI z) = some (.inr (), h) := by
  obtain ⟨⟨w1, w2, w3, w4, w5, w6, w7, w8, w9, w10, w11, w12, w13, w14, w15, w16⟩, -⟩ := id I.1
  obtain ⟨⟨e1, e4, e6, e7, e8, e10, e12, e15⟩, -⟩ := id I.2.1
  simp (disch := omega) only [f_X11_checkLaw, f_X11_checkLaw_15, jL, jJ, jI_lt, jI_le, jI_eq, jI_nat, jBt, jBo, gi_, gl_, x_let, if_pos, if_neg, if_true, Option.bind_some, tvz, tvo, wd_j, and_self, true_and, and_true, Int.toNat_zero, xb_v, xb_e, isb0, isb1, e8]
theorem ckL_n {gh : Nat} {x : Nat} {K : XK} {h : XH} (I : Inv gh x K h) {z : Int} (hr : -2147483648 ≤ z ∧ z < 2147483648) (hz : ¬ (0 ≤ z ∧ z < wd x h 2)) : f_X11_checkLaw x h (jI z) = some (.inl 0, h) := by
  obtain ⟨⟨w1, w2, w3, w4, w5, w6, w7, w8, w9, w10, w11, w12, w13, w14, w15, w16⟩, -⟩ := id I.1
  obtain ⟨⟨e1, e4, e6, e7, e8, e10, e12, e15⟩, -⟩ := id I.2.1
  by_cases c : z < 0
  · simp (disch := omega) only [f_X11_checkLaw, f_X11_checkLaw_15, jL, jJ, jI_lt, jI_le, jI_eq, jI_nat, jBt, jBo, gi_, gl_, x_let, if_pos, if_neg, if_true, Option.bind_some, tvz, tvo, wd_j, and_self, true_and, and_true, Int.toNat_zero, xb_v, xb_e, isb0, isb1, e8]
  · simp (disch := omega) only [f_X11_checkLaw, f_X11_checkLaw_15, jL, jJ, jI_lt, jI_le, jI_eq, jI_nat, jBt, jBo, gi_, gl_, x_let, if_pos, if_neg, if_true, Option.bind_some, tvz, tvo, wd_j, and_self, true_and, and_true, Int.toNat_zero, xb_v, xb_e, isb0, isb1, e8]
theorem ckL_ry {gh : Nat} {x : Nat} {K : XK} {h : XH} (I : Inv gh x K h) {z : Int} (hz : 0 ≤ z ∧ z < wd x h 2) : f_X12_noLaw x h (jI z) = some (jI 0) := by
  obtain ⟨⟨w1, w2, w3, w4, w5, w6, w7, w8, w9, w10, w11, w12, w13, w14, w15, w16⟩, -⟩ := id I.1
  obtain ⟨⟨e1, e4, e6, e7, e8, e10, e12, e15⟩, -⟩ := id I.2.1
  have t2 : (2 : Int).toNat = 2 := rfl
  simp (disch := omega) only [f_X12_noLaw, f_X12_none, f_X12_in, jL, jJ, jI_lt, jI_le, jI_eq, jI_nat, jBt, jBo, gi_, gl_, x_let, if_pos, if_neg, if_true, Option.bind_some, tvz, tvo, wd_j, and_self, true_and, and_true, Int.toNat_zero, xb_v, xb_e, isb0, isb1, t2]
theorem ckL_rn {gh : Nat} {x : Nat} {K : XK} {h : XH} (I : Inv gh x K h) {z : Int} (hr : -2147483648 ≤ z ∧ z < 2147483648) (hz : ¬ (0 ≤ z ∧ z < wd x h 2)) : f_X12_noLaw x h (jI z) = some (jI 1) := by
  obtain ⟨⟨w1, w2, w3, w4, w5, w6, w7, w8, w9, w10, w11, w12, w13, w14, w15, w16⟩, -⟩ := id I.1
  obtain ⟨⟨e1, e4, e6, e7, e8, e10, e12, e15⟩, -⟩ := id I.2.1
  have t2 : (2 : Int).toNat = 2 := rfl
  by_cases c : z < 0
  · simp (disch := omega) only [f_X12_noLaw, f_X12_none, f_X12_in, jL, jJ, jI_lt, jI_le, jI_eq, jI_nat, jBt, jBo, gi_, gl_, x_let, if_pos, if_neg, if_true, Option.bind_some, tvz, tvo, wd_j, and_self, true_and, and_true, Int.toNat_zero, xb_v, xb_e, isb0, isb1, t2]
  · simp (disch := omega) only [f_X12_noLaw, f_X12_none, f_X12_in, jL, jJ, jI_lt, jI_le, jI_eq, jI_nat, jBt, jBo, gi_, gl_, x_let, if_pos, if_neg, if_true, Option.bind_some, tvz, tvo, wd_j, and_self, true_and, and_true, Int.toNat_zero, xb_v, xb_e, isb0, isb1, t2]
theorem ckR_y {gh : Nat} {x : Nat} {K : XK} {h : XH} (I : Inv gh x K h) {z : Int} (hz : 0 ≤ z ∧ z < wd x h 3) : f_X11_checkRule x h (jI z) = some (.inr (), h) := by
  obtain ⟨⟨w1, w2, w3, w4, w5, w6, w7, w8, w9, w10, w11, w12, w13, w14, w15, w16⟩, -⟩ := id I.1
  obtain ⟨⟨e1, e4, e6, e7, e8, e10, e12, e15⟩, -⟩ := id I.2.1
  simp (disch := omega) only [f_X11_checkRule, f_X11_checkRule_15, jL, jJ, jI_lt, jI_le, jI_eq, jI_nat, jBt, jBo, gi_, gl_, x_let, if_pos, if_neg, if_true, Option.bind_some, tvz, tvo, wd_j, and_self, true_and, and_true, Int.toNat_zero, xb_v, xb_e, isb0, isb1, e10]
theorem ckR_n {gh : Nat} {x : Nat} {K : XK} {h : XH} (I : Inv gh x K h) {z : Int} (hr : -2147483648 ≤ z ∧ z < 2147483648) (hz : ¬ (0 ≤ z ∧ z < wd x h 3)) : f_X11_checkRule x h (jI z) = some (.inl 0, h) := by
  obtain ⟨⟨w1, w2, w3, w4, w5, w6, w7, w8, w9, w10, w11, w12, w13, w14, w15, w16⟩, -⟩ := id I.1
  obtain ⟨⟨e1, e4, e6, e7, e8, e10, e12, e15⟩, -⟩ := id I.2.1
  by_cases c : z < 0
  · simp (disch := omega) only [f_X11_checkRule, f_X11_checkRule_15, jL, jJ, jI_lt, jI_le, jI_eq, jI_nat, jBt, jBo, gi_, gl_, x_let, if_pos, if_neg, if_true, Option.bind_some, tvz, tvo, wd_j, and_self, true_and, and_true, Int.toNat_zero, xb_v, xb_e, isb0, isb1, e10]
  · simp (disch := omega) only [f_X11_checkRule, f_X11_checkRule_15, jL, jJ, jI_lt, jI_le, jI_eq, jI_nat, jBt, jBo, gi_, gl_, x_let, if_pos, if_neg, if_true, Option.bind_some, tvz, tvo, wd_j, and_self, true_and, and_true, Int.toNat_zero, xb_v, xb_e, isb0, isb1, e10]
theorem ckR_ry {gh : Nat} {x : Nat} {K : XK} {h : XH} (I : Inv gh x K h) {z : Int} (hz : 0 ≤ z ∧ z < wd x h 3) : f_X12_noRule x h (jI z) = some (jI 0) := by
  obtain ⟨⟨w1, w2, w3, w4, w5, w6, w7, w8, w9, w10, w11, w12, w13, w14, w15, w16⟩, -⟩ := id I.1
  obtain ⟨⟨e1, e4, e6, e7, e8, e10, e12, e15⟩, -⟩ := id I.2.1
  have t3 : (3 : Int).toNat = 3 := rfl
  simp (disch := omega) only [f_X12_noRule, f_X12_none, f_X12_in, jL, jJ, jI_lt, jI_le, jI_eq, jI_nat, jBt, jBo, gi_, gl_, x_let, if_pos, if_neg, if_true, Option.bind_some, tvz, tvo, wd_j, and_self, true_and, and_true, Int.toNat_zero, xb_v, xb_e, isb0, isb1, t3]
theorem ckR_rn {gh : Nat} {x : Nat} {K : XK} {h : XH} (I : Inv gh x K h) {z : Int} (hr : -2147483648 ≤ z ∧ z < 2147483648) (hz : ¬ (0 ≤ z ∧ z < wd x h 3)) : f_X12_noRule x h (jI z) = some (jI 1) := by
  obtain ⟨⟨w1, w2, w3, w4, w5, w6, w7, w8, w9, w10, w11, w12, w13, w14, w15, w16⟩, -⟩ := id I.1
  obtain ⟨⟨e1, e4, e6, e7, e8, e10, e12, e15⟩, -⟩ := id I.2.1
  have t3 : (3 : Int).toNat = 3 := rfl
  by_cases c : z < 0
  · simp (disch := omega) only [f_X12_noRule, f_X12_none, f_X12_in, jL, jJ, jI_lt, jI_le, jI_eq, jI_nat, jBt, jBo, gi_, gl_, x_let, if_pos, if_neg, if_true, Option.bind_some, tvz, tvo, wd_j, and_self, true_and, and_true, Int.toNat_zero, xb_v, xb_e, isb0, isb1, t3]
  · simp (disch := omega) only [f_X12_noRule, f_X12_none, f_X12_in, jL, jJ, jI_lt, jI_le, jI_eq, jI_nat, jBt, jBo, gi_, gl_, x_let, if_pos, if_neg, if_true, Option.bind_some, tvz, tvo, wd_j, and_self, true_and, and_true, Int.toNat_zero, xb_v, xb_e, isb0, isb1, t3]
theorem ckP_y {gh : Nat} {x : Nat} {K : XK} {h : XH} (I : Inv gh x K h) {z : Int} (hz : 0 ≤ z ∧ z < wd x h 1) : f_X11_checkPack x h (jI z) = some (.inr (), h) := by
  obtain ⟨⟨w1, w2, w3, w4, w5, w6, w7, w8, w9, w10, w11, w12, w13, w14, w15, w16⟩, -⟩ := id I.1
  obtain ⟨⟨e1, e4, e6, e7, e8, e10, e12, e15⟩, -⟩ := id I.2.1
  simp (disch := omega) only [f_X11_checkPack, f_X11_checkPack_15, jL, jJ, jI_lt, jI_le, jI_eq, jI_nat, jBt, jBo, gi_, gl_, x_let, if_pos, if_neg, if_true, Option.bind_some, tvz, tvo, wd_j, and_self, true_and, and_true, Int.toNat_zero, xb_v, xb_e, isb0, isb1, e4]
theorem ckP_n {gh : Nat} {x : Nat} {K : XK} {h : XH} (I : Inv gh x K h) {z : Int} (hr : -2147483648 ≤ z ∧ z < 2147483648) (hz : ¬ (0 ≤ z ∧ z < wd x h 1)) : f_X11_checkPack x h (jI z) = some (.inl 0, h) := by
  obtain ⟨⟨w1, w2, w3, w4, w5, w6, w7, w8, w9, w10, w11, w12, w13, w14, w15, w16⟩, -⟩ := id I.1
  obtain ⟨⟨e1, e4, e6, e7, e8, e10, e12, e15⟩, -⟩ := id I.2.1
  by_cases c : z < 0
  · simp (disch := omega) only [f_X11_checkPack, f_X11_checkPack_15, jL, jJ, jI_lt, jI_le, jI_eq, jI_nat, jBt, jBo, gi_, gl_, x_let, if_pos, if_neg, if_true, Option.bind_some, tvz, tvo, wd_j, and_self, true_and, and_true, Int.toNat_zero, xb_v, xb_e, isb0, isb1, e4]
  · simp (disch := omega) only [f_X11_checkPack, f_X11_checkPack_15, jL, jJ, jI_lt, jI_le, jI_eq, jI_nat, jBt, jBo, gi_, gl_, x_let, if_pos, if_neg, if_true, Option.bind_some, tvz, tvo, wd_j, and_self, true_and, and_true, Int.toNat_zero, xb_v, xb_e, isb0, isb1, e4]
theorem ckP_ry {gh : Nat} {x : Nat} {K : XK} {h : XH} (I : Inv gh x K h) {z : Int} (hz : 0 ≤ z ∧ z < wd x h 1) : f_X12_noPack x h (jI z) = some (jI 0) := by
  obtain ⟨⟨w1, w2, w3, w4, w5, w6, w7, w8, w9, w10, w11, w12, w13, w14, w15, w16⟩, -⟩ := id I.1
  obtain ⟨⟨e1, e4, e6, e7, e8, e10, e12, e15⟩, -⟩ := id I.2.1
  have t1 : (1 : Int).toNat = 1 := rfl
  simp (disch := omega) only [f_X12_noPack, f_X12_none, f_X12_in, jL, jJ, jI_lt, jI_le, jI_eq, jI_nat, jBt, jBo, gi_, gl_, x_let, if_pos, if_neg, if_true, Option.bind_some, tvz, tvo, wd_j, and_self, true_and, and_true, Int.toNat_zero, xb_v, xb_e, isb0, isb1, t1]
theorem ckP_rn {gh : Nat} {x : Nat} {K : XK} {h : XH} (I : Inv gh x K h) {z : Int} (hr : -2147483648 ≤ z ∧ z < 2147483648) (hz : ¬ (0 ≤ z ∧ z < wd x h 1)) : f_X12_noPack x h (jI z) = some (jI 1) := by
  obtain ⟨⟨w1, w2, w3, w4, w5, w6, w7, w8, w9, w10, w11, w12, w13, w14, w15, w16⟩, -⟩ := id I.1
  obtain ⟨⟨e1, e4, e6, e7, e8, e10, e12, e15⟩, -⟩ := id I.2.1
  have t1 : (1 : Int).toNat = 1 := rfl
  by_cases c : z < 0
  · simp (disch := omega) only [f_X12_noPack, f_X12_none, f_X12_in, jL, jJ, jI_lt, jI_le, jI_eq, jI_nat, jBt, jBo, gi_, gl_, x_let, if_pos, if_neg, if_true, Option.bind_some, tvz, tvo, wd_j, and_self, true_and, and_true, Int.toNat_zero, xb_v, xb_e, isb0, isb1, t1]
  · simp (disch := omega) only [f_X12_noPack, f_X12_none, f_X12_in, jL, jJ, jI_lt, jI_le, jI_eq, jI_nat, jBt, jBo, gi_, gl_, x_let, if_pos, if_neg, if_true, Option.bind_some, tvz, tvo, wd_j, and_self, true_and, and_true, Int.toNat_zero, xb_v, xb_e, isb0, isb1, t1]
theorem ckH_y {gh : Nat} {x : Nat} {K : XK} {h : XH} (I : Inv gh x K h) {z : Int} (hz : 0 ≤ z ∧ z < wd x h 0) : f_X11_checkHouse x h (jI z) = some (.inr (), h) := by
  obtain ⟨⟨w1, w2, w3, w4, w5, w6, w7, w8, w9, w10, w11, w12, w13, w14, w15, w16⟩, -⟩ := id I.1
  obtain ⟨⟨e1, e4, e6, e7, e8, e10, e12, e15⟩, -⟩ := id I.2.1
  simp (disch := omega) only [f_X11_checkHouse, f_X11_checkHouse_15, jL, jJ, jI_lt, jI_le, jI_eq, jI_nat, jBt, jBo, gi_, gl_, x_let, if_pos, if_neg, if_true, Option.bind_some, tvz, tvo, wd_j, and_self, true_and, and_true, Int.toNat_zero, xb_v, xb_e, isb0, isb1, e1]
theorem ckH_n {gh : Nat} {x : Nat} {K : XK} {h : XH} (I : Inv gh x K h) {z : Int} (hr : -2147483648 ≤ z ∧ z < 2147483648) (hz : ¬ (0 ≤ z ∧ z < wd x h 0)) : f_X11_checkHouse x h (jI z) = some (.inl 0, h) := by
  obtain ⟨⟨w1, w2, w3, w4, w5, w6, w7, w8, w9, w10, w11, w12, w13, w14, w15, w16⟩, -⟩ := id I.1
  obtain ⟨⟨e1, e4, e6, e7, e8, e10, e12, e15⟩, -⟩ := id I.2.1
  by_cases c : z < 0
  · simp (disch := omega) only [f_X11_checkHouse, f_X11_checkHouse_15, jL, jJ, jI_lt, jI_le, jI_eq, jI_nat, jBt, jBo, gi_, gl_, x_let, if_pos, if_neg, if_true, Option.bind_some, tvz, tvo, wd_j, and_self, true_and, and_true, Int.toNat_zero, xb_v, xb_e, isb0, isb1, e1]
  · simp (disch := omega) only [f_X11_checkHouse, f_X11_checkHouse_15, jL, jJ, jI_lt, jI_le, jI_eq, jI_nat, jBt, jBo, gi_, gl_, x_let, if_pos, if_neg, if_true, Option.bind_some, tvz, tvo, wd_j, and_self, true_and, and_true, Int.toNat_zero, xb_v, xb_e, isb0, isb1, e1]
theorem ckH_ry {gh : Nat} {x : Nat} {K : XK} {h : XH} (I : Inv gh x K h) {z : Int} (hz : 0 ≤ z ∧ z < wd x h 0) : f_X12_none x h (jI z) (jI 0) = some (jI 0) := by
  obtain ⟨⟨w1, w2, w3, w4, w5, w6, w7, w8, w9, w10, w11, w12, w13, w14, w15, w16⟩, -⟩ := id I.1
  obtain ⟨⟨e1, e4, e6, e7, e8, e10, e12, e15⟩, -⟩ := id I.2.1
  have t0 : (0 : Int).toNat = 0 := rfl
  simp (disch := omega) only [ f_X12_none, f_X12_in, jL, jJ, jI_lt, jI_le, jI_eq, jI_nat, jBt, jBo, gi_, gl_, x_let, if_pos, if_neg, if_true, Option.bind_some, tvz, tvo, wd_j, and_self, true_and, and_true, Int.toNat_zero, xb_v, xb_e, isb0, isb1, t0]
theorem ckH_rn {gh : Nat} {x : Nat} {K : XK} {h : XH} (I : Inv gh x K h) {z : Int} (hr : -2147483648 ≤ z ∧ z < 2147483648) (hz : ¬ (0 ≤ z ∧ z < wd x h 0)) : f_X12_none x h (jI z) (jI 0) = some (jI 1) := by
  obtain ⟨⟨w1, w2, w3, w4, w5, w6, w7, w8, w9, w10, w11, w12, w13, w14, w15, w16⟩, -⟩ := id I.1
  obtain ⟨⟨e1, e4, e6, e7, e8, e10, e12, e15⟩, -⟩ := id I.2.1
  have t0 : (0 : Int).toNat = 0 := rfl
  by_cases c : z < 0
  · simp (disch := omega) only [ f_X12_none, f_X12_in, jL, jJ, jI_lt, jI_le, jI_eq, jI_nat, jBt, jBo, gi_, gl_, x_let, if_pos, if_neg, if_true, Option.bind_some, tvz, tvo, wd_j, and_self, true_and, and_true, Int.toNat_zero, xb_v, xb_e, isb0, isb1, t0]
  · simp (disch := omega) only [ f_X12_none, f_X12_in, jL, jJ, jI_lt, jI_le, jI_eq, jI_nat, jBt, jBo, gi_, gl_, x_let, if_pos, if_neg, if_true, Option.bind_some, tvz, tvo, wd_j, and_self, true_and, and_true, Int.toNat_zero, xb_v, xb_e, isb0, isb1, t0]
