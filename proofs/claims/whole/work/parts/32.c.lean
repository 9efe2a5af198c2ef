/-! ===== packs, places, looks: as functions of the world ===== -/
def cd_ (w : Nat → Int) (p : Nat) (i : Int) : Int := (w (290 + 81 * p) + i * w (290 + 81 * p + 1)) % 52
def lk_ (w : Nat → Int) (j d : Int) : Int := w (165 + 21 * j.toNat + d.toNat)
def pc_ (w : Nat → Int) (p : Nat) : Int := pl_ (w (290 + 81 * p + 2)) (w (290 + 81 * p + 6))
def pa_ (w : Nat → Int) (q : Nat) (hs dr : Int) : Int := if 0 < w (290 + 81 * q + 3) ∧ w (290 + 81 * q + 4) = hs ∧ 0 ≤ dr - w (290 + 81 * q + 5) ∧ dr - w (290 + 81 * q + 5) < pc_ w q then dr - w (290 + 81 * q + 5) else -1
def old_ (w : Nat → Int) (p : Nat) (hs dr ah : Int) : Int := sm_ (w 1).toNat (fun q => if q ≠ p ∧ w (290 + 81 * q + 3) < ah ∧ 0 ≤ pa_ w q hs dr then 1 else 0)
def like_ (w : Nat → Int) (hs fr mn pl : Int) : Int := sm_ mn.toNat (fun k => if (k : Int) ≠ pl ∧ lk_ w hs (fr + k) = lk_ w hs (fr + pl) then 1 else 0)
theorem Inv.pk {gh : Nat} {x : Nat} {K : XK} {h : XH} (I : Inv gh x K h) {q : Nat} (hq : (q : Int) < wd x h 1) : CPk h (x + 13 + 6 + 3 * q) (wd x h) (290 + 81 * q) := by
  rw [show x + 13 + 6 + 3 * q = x + 9 + 10 + 3 * q by omega]
  exact I.2.1.2.2.2.1 q hq
theorem Inv.wp {gh : Nat} {x : Nat} {K : XK} {h : XH} (I : Inv gh x K h) {q : Nat} (hq : (q : Int) < wd x h 1) : WPk (wd x h) (290 + 81 * q) := I.1.2.2.2.1 q hq
theorem Inv.w1 {gh : Nat} {x : Nat} {K : XK} {h : XH} (I : Inv gh x K h) : 0 ≤ wd x h 1 ∧ wd x h 1 ≤ 8 := ⟨I.1.1.2.2.1, I.1.1.2.2.2.1⟩
theorem Inv.w0 {gh : Nat} {x : Nat} {K : XK} {h : XH} (I : Inv gh x K h) : 0 ≤ wd x h 0 ∧ wd x h 0 ≤ 6 := ⟨I.1.1.1, I.1.1.2.1⟩
theorem Inv.dr {gh : Nat} {x : Nat} {K : XK} {h : XH} (I : Inv gh x K h) {j : Int} (hj : 0 ≤ j ∧ j < wd x h 0) : 1 ≤ wd x h (164 + 21 * j.toNat) ∧ wd x h (164 + 21 * j.toNat) ≤ 20 := by
  have := I.1.2.2.1 j.toNat (by omega)
  exact ⟨this.1, this.2.1⟩
theorem m1_ : (-1 : Int32) = jI (-1) := by decide
theorem of_0 {x : Nat} {h : XH} {p : Nat} (hp : p < 8) : f_X12_of x h (jI (p : Int)) (jI 0) = some (jI (wd x h (290 + 81 * p))) := by
  have t : (290 + 81 * (p : Int) + 0).toNat = 290 + 81 * p + 0 := by omega
  simp (disch := omega) only [f_X12_of, jL, jJ, jI_lt, jI_le, jI_eq, jI_nat, jBt, jBo, x_let, if_pos, if_neg, if_true, Option.bind_some, wd_j, and_self, true_and, and_true, Int.toNat_zero, Int.toNat_natCast, isb0, isb1, t, Nat.add_zero]
theorem of_1 {x : Nat} {h : XH} {p : Nat} (hp : p < 8) : f_X12_of x h (jI (p : Int)) (jI 1) = some (jI (wd x h (290 + 81 * p + 1))) := by
  have t : (290 + 81 * (p : Int) + 1).toNat = 290 + 81 * p + 1 := by omega
  simp (disch := omega) only [f_X12_of, jL, jJ, jI_lt, jI_le, jI_eq, jI_nat, jBt, jBo, x_let, if_pos, if_neg, if_true, Option.bind_some, wd_j, and_self, true_and, and_true, Int.toNat_zero, Int.toNat_natCast, isb0, isb1, t, Nat.add_zero]
theorem of_2 {x : Nat} {h : XH} {p : Nat} (hp : p < 8) : f_X12_of x h (jI (p : Int)) (jI 2) = some (jI (wd x h (290 + 81 * p + 2))) := by
  have t : (290 + 81 * (p : Int) + 2).toNat = 290 + 81 * p + 2 := by omega
  simp (disch := omega) only [f_X12_of, jL, jJ, jI_lt, jI_le, jI_eq, jI_nat, jBt, jBo, x_let, if_pos, if_neg, if_true, Option.bind_some, wd_j, and_self, true_and, and_true, Int.toNat_zero, Int.toNat_natCast, isb0, isb1, t, Nat.add_zero]
theorem of_3 {x : Nat} {h : XH} {p : Nat} (hp : p < 8) : f_X12_of x h (jI (p : Int)) (jI 3) = some (jI (wd x h (290 + 81 * p + 3))) := by
  have t : (290 + 81 * (p : Int) + 3).toNat = 290 + 81 * p + 3 := by omega
  simp (disch := omega) only [f_X12_of, jL, jJ, jI_lt, jI_le, jI_eq, jI_nat, jBt, jBo, x_let, if_pos, if_neg, if_true, Option.bind_some, wd_j, and_self, true_and, and_true, Int.toNat_zero, Int.toNat_natCast, isb0, isb1, t, Nat.add_zero]
theorem of_4 {x : Nat} {h : XH} {p : Nat} (hp : p < 8) : f_X12_of x h (jI (p : Int)) (jI 4) = some (jI (wd x h (290 + 81 * p + 4))) := by
  have t : (290 + 81 * (p : Int) + 4).toNat = 290 + 81 * p + 4 := by omega
  simp (disch := omega) only [f_X12_of, jL, jJ, jI_lt, jI_le, jI_eq, jI_nat, jBt, jBo, x_let, if_pos, if_neg, if_true, Option.bind_some, wd_j, and_self, true_and, and_true, Int.toNat_zero, Int.toNat_natCast, isb0, isb1, t, Nat.add_zero]
theorem of_5 {x : Nat} {h : XH} {p : Nat} (hp : p < 8) : f_X12_of x h (jI (p : Int)) (jI 5) = some (jI (wd x h (290 + 81 * p + 5))) := by
  have t : (290 + 81 * (p : Int) + 5).toNat = 290 + 81 * p + 5 := by omega
  simp (disch := omega) only [f_X12_of, jL, jJ, jI_lt, jI_le, jI_eq, jI_nat, jBt, jBo, x_let, if_pos, if_neg, if_true, Option.bind_some, wd_j, and_self, true_and, and_true, Int.toNat_zero, Int.toNat_natCast, isb0, isb1, t, Nat.add_zero]
theorem of_6 {x : Nat} {h : XH} {p : Nat} (hp : p < 8) : f_X12_of x h (jI (p : Int)) (jI 6) = some (jI (wd x h (290 + 81 * p + 6))) := by
  have t : (290 + 81 * (p : Int) + 6).toNat = 290 + 81 * p + 6 := by omega
  simp (disch := omega) only [f_X12_of, jL, jJ, jI_lt, jI_le, jI_eq, jI_nat, jBt, jBo, x_let, if_pos, if_neg, if_true, Option.bind_some, wd_j, and_self, true_and, and_true, Int.toNat_zero, Int.toNat_natCast, isb0, isb1, t, Nat.add_zero]
theorem of_7 {x : Nat} {h : XH} {p : Nat} (hp : p < 8) : f_X12_of x h (jI (p : Int)) (jI 7) = some (jI (wd x h (290 + 81 * p + 7))) := by
  have t : (290 + 81 * (p : Int) + 7).toNat = 290 + 81 * p + 7 := by omega
  simp (disch := omega) only [f_X12_of, jL, jJ, jI_lt, jI_le, jI_eq, jI_nat, jBt, jBo, x_let, if_pos, if_neg, if_true, Option.bind_some, wd_j, and_self, true_and, and_true, Int.toNat_zero, Int.toNat_natCast, isb0, isb1, t, Nat.add_zero]
theorem of_8 {x : Nat} {h : XH} {p : Nat} (hp : p < 8) : f_X12_of x h (jI (p : Int)) (jI 8) = some (jI (wd x h (290 + 81 * p + 8))) := by
  have t : (290 + 81 * (p : Int) + 8).toNat = 290 + 81 * p + 8 := by omega
  simp (disch := omega) only [f_X12_of, jL, jJ, jI_lt, jI_le, jI_eq, jI_nat, jBt, jBo, x_let, if_pos, if_neg, if_true, Option.bind_some, wd_j, and_self, true_and, and_true, Int.toNat_zero, Int.toNat_natCast, isb0, isb1, t, Nat.add_zero]
theorem of_s {x : Nat} {h : XH} {p i : Nat} (hp : p < 8) (hi : i < 52) : f_X12_of x h (jI (p : Int)) (jI (29 + (i : Int))) = some (jI (wd x h (290 + 81 * p + 29 + i))) := by
  have t : (290 + 81 * (p : Int) + (29 + (i : Int))).toNat = 290 + 81 * p + 29 + i := by omega
  simp (disch := omega) only [f_X12_of, jL, jJ, jI_lt, jI_le, jI_eq, jI_nat, jBt, jBo, x_let, if_pos, if_neg, if_true, Option.bind_some, wd_j, and_self, true_and, and_true, Int.toNat_zero, Int.toNat_natCast, isb0, isb1, t]
theorem of_t {x : Nat} {h : XH} {p : Nat} {k : Int} (hp : p < 8) (hk : 0 ≤ k ∧ k < 20) : f_X12_of x h (jI (p : Int)) (jI (9 + k)) = some (jI (wd x h (290 + 81 * p + 9 + k.toNat))) := by
  have t : (290 + 81 * (p : Int) + (9 + k)).toNat = 290 + 81 * p + 9 + k.toNat := by omega
  simp (disch := omega) only [f_X12_of, jL, jJ, jI_lt, jI_le, jI_eq, jI_nat, jBt, jBo, x_let, if_pos, if_neg, if_true, Option.bind_some, wd_j, and_self, true_and, and_true, Int.toNat_zero, Int.toNat_natCast, isb0, isb1, t]
theorem cd_b (w : Nat → Int) (p : Nat) (i : Int) : 0 ≤ cd_ w p i ∧ cd_ w p i < 52 := ⟨Int.emod_nonneg _ (by decide), Int.emod_lt_of_pos _ (by decide)⟩
theorem i_st {a b : Int} (h1 : 0 ≤ a) (h2 : a ≤ 60) (h3 : 0 ≤ b) (h4 : b < 60) : 0 ≤ a * b ∧ a * b ≤ 3600 := by
  refine ⟨Int.mul_nonneg h1 h3, ?_⟩
  have := Int.mul_le_mul h2 (show b ≤ 60 by omega) h3 (by decide)
  omega
theorem r_card {gh : Nat} {x : Nat} {K : XK} {h : XH} (I : Inv gh x K h) {p : Nat} (hp : (p : Int) < wd x h 1) {i : Int} (hi : 0 ≤ i ∧ i ≤ 60) : f_X12_cardOf x h (jI (p : Int)) (jI i) = some (jI (cd_ (wd x h) p i)) := by
  have h1 := I.w1
  obtain ⟨p1, p2, p3, p4, -⟩ := I.wp hp
  have hm := i_st hi.1 hi.2 (show 0 ≤ wd x h (290 + 81 * p + 1) by omega) (by omega)
  have o0 := of_0 (x := x) (h := h) (p := p) (by omega)
  have o1 := of_1 (x := x) (h := h) (p := p) (by omega)
  simp (disch := omega) only [f_X12_cardOf, jL, jJ, jI_lt, jI_le, jI_eq, jI_nat, jBt, jBo, x_let, if_pos, if_neg, if_true, Option.bind_some, wd_j, and_self, true_and, and_true, Int.toNat_zero, Int.toNat_natCast, isb0, isb1, o0, o1, jI_rem, cd_]
theorem c_card {gh : Nat} {x : Nat} {K : XK} {h : XH} (I : Inv gh x K h) {p : Nat} (hp : (p : Int) < wd x h 1) {i : Int} (hi : 0 ≤ i ∧ i ≤ 60) : f_X2_cardAt (x + 13 + 6 + 3 * p) h (jI i) = jI (cd_ (wd x h) p i) := by
  have h1 := I.w1
  obtain ⟨p1, p2, p3, p4, -⟩ := I.wp hp
  obtain ⟨q1, q2, -⟩ := I.pk hp
  have hm := i_st hi.1 hi.2 (show 0 ≤ wd x h (290 + 81 * p + 1) by omega) (by omega)
  simp (disch := omega) only [f_X2_cardAt, q1, q2, jL, jJ, jI_lt, jI_le, jI_eq, jI_nat, jBt, jBo, x_let, if_pos, if_neg, if_true, Option.bind_some, wd_j, and_self, true_and, and_true, Int.toNat_zero, Int.toNat_natCast, isb0, isb1, jI_rem, cd_]
theorem pl_c {n per : Int} (h1 : 3 ≤ n) (h2 : n ≤ 52) (h3 : 1 ≤ per) (h4 : per ≤ 3) : jI (n + per - 1) / jI per = jI (pl_ n per) := by
  rw [jI_div (by omega) (by omega) (by omega) (by omega)]
  rfl
theorem r_pf {h : XH} {n per : Int} (h1 : 3 ≤ n) (h2 : n ≤ 52) (h3 : 1 ≤ per) (h4 : per ≤ 3) : f_X12_placesFor h (jI n) (jI per) = some (jI (pl_ n per)) := by
  simp (disch := omega) only [f_X12_placesFor, jL, jJ, jI_lt, jI_le, jI_eq, jI_nat, jBt, jBo, x_let, if_pos, if_neg, if_true, Option.bind_some, wd_j, and_self, true_and, and_true, Int.toNat_zero, Int.toNat_natCast, isb0, isb1, pl_c]
theorem r_places {gh : Nat} {x : Nat} {K : XK} {h : XH} (I : Inv gh x K h) {p : Nat} (hp : (p : Int) < wd x h 1) : f_X12_places x h (jI (p : Int)) = some (jI (pc_ (wd x h) p)) := by
  have h1 := I.w1
  obtain ⟨-, -, -, -, -, -, p7, p8, -, -, p11, p12, -⟩ := I.wp hp
  have o2 := of_2 (x := x) (h := h) (p := p) (by omega)
  have o6 := of_6 (x := x) (h := h) (p := p) (by omega)
  simp (disch := omega) only [f_X12_places, jL, jJ, jI_lt, jI_le, jI_eq, jI_nat, jBt, jBo, x_let, if_pos, if_neg, if_true, Option.bind_some, wd_j, and_self, true_and, and_true, Int.toNat_zero, Int.toNat_natCast, isb0, isb1, o2, o6, r_pf, pc_]
theorem c_pby {gh : Nat} {x : Nat} {K : XK} {h : XH} (I : Inv gh x K h) {p : Nat} (hp : (p : Int) < wd x h 1) {per : Int} (h3 : 1 ≤ per) (h4 : per ≤ 3) : f_X2_placesBy (x + 13 + 6 + 3 * p) h (jI per) = some (jI (pl_ (wd x h (290 + 81 * p + 2)) per)) := by
  obtain ⟨-, -, -, -, -, -, p7, p8, -⟩ := I.wp hp
  obtain ⟨-, -, q3, -⟩ := I.pk hp
  simp (disch := omega) only [f_X2_placesBy, q3, jL, jJ, jI_lt, jI_le, jI_eq, jI_nat, jBt, jBo, x_let, if_pos, if_neg, if_true, Option.bind_some, wd_j, and_self, true_and, and_true, Int.toNat_zero, Int.toNat_natCast, isb0, isb1, pl_c]
theorem pc_b {gh : Nat} {x : Nat} {K : XK} {h : XH} (I : Inv gh x K h) {p : Nat} (hp : (p : Int) < wd x h 1) : 1 ≤ pc_ (wd x h) p ∧ pc_ (wd x h) p ≤ 52 := by
  obtain ⟨-, -, -, -, -, -, p7, p8, -, -, p11, p12, -⟩ := I.wp hp
  exact pl_b p7 p8 p11 p12
theorem r_isp {gh : Nat} {x : Nat} {K : XK} {h : XH} (I : Inv gh x K h) {p : Nat} (hp : (p : Int) < wd x h 1) : f_X12_isPut x h (jI (p : Int)) = some (jI (if 0 < wd x h (290 + 81 * p + 3) then 1 else 0)) := by
  have h1 := I.w1
  have h7 := I.1.1.2.2.2.2.2.2.2.2.2.2.2.2.2.2.2
  obtain ⟨-, -, -, -, -, -, -, -, p9, p10, -⟩ := I.wp hp
  have o3 := of_3 (x := x) (h := h) (p := p) (by omega)
  by_cases c : 0 < wd x h (290 + 81 * p + 3)
  · simp (disch := omega) only [f_X12_isPut, jL, jJ, jI_lt, jI_le, jI_eq, jI_nat, jBt, jBo, x_let, if_pos, if_neg, if_true, Option.bind_some, wd_j, and_self, true_and, and_true, Int.toNat_zero, Int.toNat_natCast, isb0, isb1, o3]
  · simp (disch := omega) only [f_X12_isPut, jL, jJ, jI_lt, jI_le, jI_eq, jI_nat, jBt, jBo, x_let, if_pos, if_neg, if_true, Option.bind_some, wd_j, and_self, true_and, and_true, Int.toNat_zero, Int.toNat_natCast, isb0, isb1, o3]
theorem r_pat {gh : Nat} {x : Nat} {K : XK} {h : XH} (I : Inv gh x K h) {p : Nat} (hp : (p : Int) < wd x h 1) {hs dr : Int} (hh : 0 ≤ hs ∧ hs ≤ 100) (hd : 0 ≤ dr ∧ dr ≤ 100) : f_X12_placeAt x h (jI (p : Int)) (jI hs) (jI dr) = some (jI (pa_ (wd x h) p hs dr)) := by
  have h1 := I.w1
  have h0 := I.w0
  have hb := pc_b I hp
  obtain ⟨p1, p2, p3, p4, p5, p6, p7, p8, p9, p10, p11, p12, p13, p14⟩ := I.wp hp
  have o5 := of_5 (x := x) (h := h) (p := p) (by omega)
  have o4 := of_4 (x := x) (h := h) (p := p) (by omega)
  have hq := r_isp I hp
  have hl := r_places I hp
  by_cases c : 0 < wd x h (290 + 81 * p + 3)
  · obtain ⟨u1, u2, u3, u4, -⟩ := p14 c
    have := I.dr ⟨u1, u2⟩
    have hb2 : pl_ (wd x h (290 + 81 * p + 2)) (wd x h (290 + 81 * p + 6)) = pc_ (wd x h) p := rfl
    rw [hb2] at u4
    rw [if_pos c] at hq
    unfold pa_
    by_cases c2 : wd x h (290 + 81 * p + 4) = hs
    · by_cases c3 : dr - wd x h (290 + 81 * p + 5) < 0
      · simp (disch := omega) only [f_X12_placeAt, f_X12_placeAt_49, f_X12_in, jL, jJ, jI_lt, jI_le, jI_eq, jI_nat, jBt, jBo, x_let, if_pos, if_neg, if_true, Option.bind_some, wd_j, and_self, true_and, and_true, Int.toNat_zero, Int.toNat_natCast, isb0, isb1, o5, o4, hq, hl, m1_]
      · by_cases c4 : dr - wd x h (290 + 81 * p + 5) < pc_ (wd x h) p
        · simp (disch := omega) only [f_X12_placeAt, f_X12_placeAt_49, f_X12_in, jL, jJ, jI_lt, jI_le, jI_eq, jI_nat, jBt, jBo, x_let, if_pos, if_neg, if_true, Option.bind_some, wd_j, and_self, true_and, and_true, Int.toNat_zero, Int.toNat_natCast, isb0, isb1, o5, o4, hq, hl, m1_]
        · simp (disch := omega) only [f_X12_placeAt, f_X12_placeAt_49, f_X12_in, jL, jJ, jI_lt, jI_le, jI_eq, jI_nat, jBt, jBo, x_let, if_pos, if_neg, if_true, Option.bind_some, wd_j, and_self, true_and, and_true, Int.toNat_zero, Int.toNat_natCast, isb0, isb1, o5, o4, hq, hl, m1_]
    · simp (disch := omega) only [f_X12_placeAt, f_X12_placeAt_49, f_X12_in, jL, jJ, jI_lt, jI_le, jI_eq, jI_nat, jBt, jBo, x_let, if_pos, if_neg, if_true, Option.bind_some, wd_j, and_self, true_and, and_true, Int.toNat_zero, Int.toNat_natCast, isb0, isb1, o5, o4, hq, hl, m1_]
  · rw [if_neg c] at hq
    unfold pa_
    simp (disch := omega) only [f_X12_placeAt, f_X12_placeAt_49, f_X12_in, jL, jJ, jI_lt, jI_le, jI_eq, jI_nat, jBt, jBo, x_let, if_pos, if_neg, if_true, Option.bind_some, wd_j, and_self, true_and, and_true, Int.toNat_zero, Int.toNat_natCast, isb0, isb1, o5, o4, hq, hl, m1_]
theorem c_pat {gh : Nat} {x : Nat} {K : XK} {h : XH} (I : Inv gh x K h) {p : Nat} (hp : (p : Int) < wd x h 1) {hs dr : Int} (hh : 0 ≤ hs ∧ hs ≤ 100) (hd : 0 ≤ dr ∧ dr ≤ 100) : f_X2_placeAt (x + 13 + 6 + 3 * p) h (jI hs) (jI dr) = some (jI (pa_ (wd x h) p hs dr)) := by
  have h1 := I.w1
  have h0 := I.w0
  have hb := pc_b I hp
  obtain ⟨p1, p2, p3, p4, p5, p6, p7, p8, p9, p10, p11, p12, p13, p14⟩ := I.wp hp
  obtain ⟨q1, q2, q3, q4, q5, q6⟩ := I.pk hp
  by_cases c : 0 < wd x h (290 + 81 * p + 3)
  · obtain ⟨u1, u2, u3, u4, -⟩ := p14 c
    obtain ⟨d1, d2, d3, -⟩ := q6 c
    have := I.dr ⟨u1, u2⟩
    have hl := c_pby I hp p11 p12
    have hb2 : pl_ (wd x h (290 + 81 * p + 2)) (wd x h (290 + 81 * p + 6)) = pc_ (wd x h) p := rfl
    rw [hb2] at u4 hl
    rw [if_pos c] at q4
    unfold pa_
    by_cases c2 : wd x h (290 + 81 * p + 4) = hs
    · by_cases c3 : dr - wd x h (290 + 81 * p + 5) < 0
      · simp (disch := omega) only [f_X2_placeAt, f_X2_placeAt_51, q4, d1, d2, d3, jL, jJ, jI_lt, jI_le, jI_eq, jI_nat, jBt, jBo, x_let, if_pos, if_neg, if_true, Option.bind_some, wd_j, and_self, true_and, and_true, Int.toNat_zero, Int.toNat_natCast, isb0, isb1, hl, m1_]
      · by_cases c4 : dr - wd x h (290 + 81 * p + 5) < pc_ (wd x h) p
        · simp (disch := omega) only [f_X2_placeAt, f_X2_placeAt_51, q4, d1, d2, d3, jL, jJ, jI_lt, jI_le, jI_eq, jI_nat, jBt, jBo, x_let, if_pos, if_neg, if_true, Option.bind_some, wd_j, and_self, true_and, and_true, Int.toNat_zero, Int.toNat_natCast, isb0, isb1, hl, m1_]
        · simp (disch := omega) only [f_X2_placeAt, f_X2_placeAt_51, q4, d1, d2, d3, jL, jJ, jI_lt, jI_le, jI_eq, jI_nat, jBt, jBo, x_let, if_pos, if_neg, if_true, Option.bind_some, wd_j, and_self, true_and, and_true, Int.toNat_zero, Int.toNat_natCast, isb0, isb1, hl, m1_]
    · simp (disch := omega) only [f_X2_placeAt, f_X2_placeAt_51, q4, d1, d2, d3, jL, jJ, jI_lt, jI_le, jI_eq, jI_nat, jBt, jBo, x_let, if_pos, if_neg, if_true, Option.bind_some, wd_j, and_self, true_and, and_true, Int.toNat_zero, Int.toNat_natCast, isb0, isb1, hl, m1_]
  · rw [if_neg c] at q4
    unfold pa_
    simp (disch := omega) only [f_X2_placeAt, f_X2_placeAt_51, q4, jL, jJ, jI_lt, jI_le, jI_eq, jI_nat, jBt, jBo, x_let, if_pos, if_neg, if_true, Option.bind_some, wd_j, and_self, true_and, and_true, Int.toNat_zero, Int.toNat_natCast, isb0, isb1, m1_]
theorem pa_b {gh : Nat} {x : Nat} {K : XK} {h : XH} (I : Inv gh x K h) {p : Nat} (hp : (p : Int) < wd x h 1) {hs dr : Int} : -1 ≤ pa_ (wd x h) p hs dr ∧ pa_ (wd x h) p hs dr < 52 := by
  have hb := pc_b I hp
  unfold pa_
  split <;> omega
theorem old_b {gh : Nat} {x : Nat} {K : XK} {h : XH} (I : Inv gh x K h) {n p : Nat} {hs dr ah : Int} (hn : n ≤ 8) : 0 ≤ sm_ n (fun q => if q ≠ p ∧ wd x h (290 + 81 * q + 3) < ah ∧ 0 ≤ pa_ (wd x h) q hs dr then 1 else 0) ∧ sm_ n (fun q => if q ≠ p ∧ wd x h (290 + 81 * q + 3) < ah ∧ 0 ≤ pa_ (wd x h) q hs dr then 1 else 0) ≤ 8 := by
  have := sm_b (n := n) (f := fun q => if q ≠ p ∧ wd x h (290 + 81 * q + 3) < ah ∧ 0 ≤ pa_ (wd x h) q hs dr then 1 else 0) (lo := 0) (hi := 1) (fun i hi => by split <;> omega)
  omega
theorem c_old {gh : Nat} {x : Nat} {K : XK} {h : XH} (I : Inv gh x K h) {p : Nat} (hp : (p : Int) < wd x h 1) {v2 : Nat} {hs dr od : Int} (h0 : h.1 v2 0 = jI hs) (h7 : h.1 v2 7 = jI od) (hh : 0 ≤ hs ∧ hs ≤ 100) (hd : 0 ≤ dr ∧ dr ≤ 100) (ho : 0 ≤ od ∧ od ≤ 10000) : f_X5_oldAt x h (jI (p : Int)) v2 (jI dr) = some (jI (old_ (wd x h) p hs dr (od + 1))) := by
  have h1 := I.w1
  obtain ⟨⟨e1, e4, e6, e7, e8, e10, e12, e15⟩, -⟩ := id I.2.1
  have h77 := I.1.1.2.2.2.2.2.2.2.2.2.2.2.2.2.2.2
  generalize hN : (wd x h 1).toNat = N
  generalize hf : (fun q : Nat => if q ≠ p ∧ wd x h (290 + 81 * q + 3) < od + 1 ∧ 0 ≤ pa_ (wd x h) q hs dr then (1 : Int) else 0) = f
  have hb : ∀ n, n ≤ 8 → 0 ≤ sm_ n f ∧ sm_ n f ≤ 8 := fun n hn => by rw [← hf]; exact old_b I hn
  have key := x_up0 (P := fun m i => f_X5_oldAt_6 x h m (jI (p : Int)) v2 (jI dr) (jI (sm_ i f)) (jI (i : Int)) = some (jI (sm_ N f))) N (by omega) (fun m => by
    simp (disch := omega) only [f_X5_oldAt_6, e4, jL, jJ, jI_lt, jI_le, jI_eq, jI_nat, jBt, jBo, x_let, if_pos, if_neg, if_true, Option.bind_some, wd_j, and_self, true_and, and_true, Int.toNat_zero, Int.toNat_natCast, isb0, isb1]) (fun m i hi ih => by
    have hi1 : (i : Int) < wd x h 1 := by omega
    have hbi := hb i (by omega)
    obtain ⟨q1, q2, q3, q4, q5, q6⟩ := I.pk hi1
    obtain ⟨p1, p2, p3, p4, p5, p6, p7, p8, p9, p10, p11, p12, p13, p14⟩ := I.wp hi1
    have hpa := c_pat I hi1 hh hd
    have hpb := pa_b I hi1 (hs := hs) (dr := dr)
    have hfi : f i = if i ≠ p ∧ wd x h (290 + 81 * i + 3) < od + 1 ∧ 0 ≤ pa_ (wd x h) i hs dr then (1 : Int) else 0 := by rw [← hf]
    by_cases c1 : i = p
    · rw [if_neg (by omega)] at hfi
      simp only [sm_s, hfi, Int.add_zero, Int.natCast_add, Int.natCast_one] at ih
      simp (disch := omega) only [f_X5_oldAt_6, f_X5_oldAt_76, e4, jL, jJ, jI_lt, jI_le, jI_eq, jI_nat, jBt, jBo, x_let, if_pos, if_neg, if_true, Option.bind_some, wd_j, and_self, true_and, and_true, Int.toNat_zero, Int.toNat_natCast, isb0, isb1, ih]
    · by_cases c2 : 0 < wd x h (290 + 81 * i + 3)
      · rw [if_pos c2] at q4
        obtain ⟨d1, d2, d3, d4, d5, d6, -⟩ := q6 c2
        by_cases c3 : wd x h (290 + 81 * i + 3) < od + 1
        · by_cases c4 : 0 ≤ pa_ (wd x h) i hs dr
          · rw [if_pos (by omega)] at hfi
            simp only [sm_s, hfi, Int.natCast_add, Int.natCast_one] at ih
            simp (disch := omega) only [f_X5_oldAt_6, f_X5_oldAt_76, e4, q4, h0, h7, d6, hpa, m1_, jL, jJ, jI_lt, jI_le, jI_eq, jI_nat, jBt, jBo, x_let, if_pos, if_neg, if_true, Option.bind_some, wd_j, and_self, true_and, and_true, Int.toNat_zero, Int.toNat_natCast, isb0, isb1, ih]
          · rw [if_neg (by omega)] at hfi
            simp only [sm_s, hfi, Int.add_zero, Int.natCast_add, Int.natCast_one] at ih
            simp (disch := omega) only [f_X5_oldAt_6, f_X5_oldAt_76, e4, q4, h0, h7, d6, hpa, m1_, jL, jJ, jI_lt, jI_le, jI_eq, jI_nat, jBt, jBo, x_let, if_pos, if_neg, if_true, Option.bind_some, wd_j, and_self, true_and, and_true, Int.toNat_zero, Int.toNat_natCast, isb0, isb1, ih]
        · rw [if_neg (by omega)] at hfi
          simp only [sm_s, hfi, Int.add_zero, Int.natCast_add, Int.natCast_one] at ih
          simp (disch := omega) only [f_X5_oldAt_6, f_X5_oldAt_76, e4, q4, h0, h7, d6, m1_, jL, jJ, jI_lt, jI_le, jI_eq, jI_nat, jBt, jBo, x_let, if_pos, if_neg, if_true, Option.bind_some, wd_j, and_self, true_and, and_true, Int.toNat_zero, Int.toNat_natCast, isb0, isb1, ih]
      · have hz : pa_ (wd x h) i hs dr = -1 := by unfold pa_; rw [if_neg (by omega)]
        rw [if_neg (by omega)] at hfi
        rw [if_neg c2] at q4
        simp only [sm_s, hfi, Int.add_zero, Int.natCast_add, Int.natCast_one] at ih
        simp (disch := omega) only [f_X5_oldAt_6, f_X5_oldAt_76, e4, q4, jL, jJ, jI_lt, jI_le, jI_eq, jI_nat, jBt, jBo, x_let, if_pos, if_neg, if_true, Option.bind_some, wd_j, and_self, true_and, and_true, Int.toNat_zero, Int.toNat_natCast, isb0, isb1, ih])
  simp only [f_X5_oldAt, old_, hN, hf, jL]
  exact key
theorem r_old {gh : Nat} {x : Nat} {K : XK} {h : XH} (I : Inv gh x K h) {p : Nat} (hp : (p : Int) < wd x h 1) {hs dr ah : Int} (hh : 0 ≤ hs ∧ hs ≤ 100) (hd : 0 ≤ dr ∧ dr ≤ 100) (ho : 0 ≤ ah ∧ ah ≤ 10000) : f_X12_oldAt x h (jI (p : Int)) (jI hs) (jI dr) (jI ah) = some (jI (old_ (wd x h) p hs dr ah)) := by
  have h1 := I.w1
  have h77 := I.1.1.2.2.2.2.2.2.2.2.2.2.2.2.2.2.2
  have t1 : (1 : Int).toNat = 1 := rfl
  generalize hN : (wd x h 1).toNat = N
  generalize hf : (fun q : Nat => if q ≠ p ∧ wd x h (290 + 81 * q + 3) < ah ∧ 0 ≤ pa_ (wd x h) q hs dr then (1 : Int) else 0) = f
  have hb : ∀ n, n ≤ 8 → 0 ≤ sm_ n f ∧ sm_ n f ≤ 8 := fun n hn => by rw [← hf]; exact old_b I hn
  have key := x_up0 (P := fun m i => f_X12_oldAt_6 x h m (jI (p : Int)) (jI hs) (jI dr) (jI ah) (jI (sm_ i f)) (jI (i : Int)) = some (jI (sm_ N f))) N (by omega) (fun m => by
    simp (disch := omega) only [f_X12_oldAt_6, t1, jL, jJ, jI_lt, jI_le, jI_eq, jI_nat, jBt, jBo, x_let, if_pos, if_neg, if_true, Option.bind_some, wd_j, and_self, true_and, and_true, Int.toNat_zero, Int.toNat_natCast, isb0, isb1]) (fun m i hi ih => by
    have hi1 : (i : Int) < wd x h 1 := by omega
    have hbi := hb i (by omega)
    obtain ⟨p1, p2, p3, p4, p5, p6, p7, p8, p9, p10, p11, p12, p13, p14⟩ := I.wp hi1
    have hpa := r_pat I hi1 hh hd
    have hpb := pa_b I hi1 (hs := hs) (dr := dr)
    have o3 := of_3 (x := x) (h := h) (p := i) (by omega)
    have hfi : f i = if i ≠ p ∧ wd x h (290 + 81 * i + 3) < ah ∧ 0 ≤ pa_ (wd x h) i hs dr then (1 : Int) else 0 := by rw [← hf]
    by_cases c1 : i = p
    · rw [if_neg (by omega)] at hfi
      simp only [sm_s, hfi, Int.natCast_add, Int.natCast_one] at ih
      simp (disch := omega) only [f_X12_oldAt_6, f_X12_oldAt_52, f_X12_oldAt_53, t1, jL, jJ, jI_lt, jI_le, jI_eq, jI_nat, jBt, jBo, x_let, if_pos, if_neg, if_true, Option.bind_some, wd_j, and_self, true_and, and_true, Int.toNat_zero, Int.toNat_natCast, isb0, isb1, ih]
    · by_cases c3 : wd x h (290 + 81 * i + 3) < ah
      · by_cases c4 : 0 ≤ pa_ (wd x h) i hs dr
        · rw [if_pos (by omega)] at hfi
          simp only [sm_s, hfi, Int.natCast_add, Int.natCast_one] at ih
          simp (disch := omega) only [f_X12_oldAt_6, f_X12_oldAt_52, f_X12_oldAt_53, t1, o3, hpa, jL, jJ, jI_lt, jI_le, jI_eq, jI_nat, jBt, jBo, x_let, if_pos, if_neg, if_true, Option.bind_some, wd_j, and_self, true_and, and_true, Int.toNat_zero, Int.toNat_natCast, isb0, isb1, ih]
        · rw [if_neg (by omega)] at hfi
          simp only [sm_s, hfi, Int.natCast_add, Int.natCast_one] at ih
          simp (disch := omega) only [f_X12_oldAt_6, f_X12_oldAt_52, f_X12_oldAt_53, t1, o3, hpa, jL, jJ, jI_lt, jI_le, jI_eq, jI_nat, jBt, jBo, x_let, if_pos, if_neg, if_true, Option.bind_some, wd_j, and_self, true_and, and_true, Int.toNat_zero, Int.toNat_natCast, isb0, isb1, ih]
      · rw [if_neg (by omega)] at hfi
        simp only [sm_s, hfi, Int.natCast_add, Int.natCast_one] at ih
        simp (disch := omega) only [f_X12_oldAt_6, f_X12_oldAt_52, f_X12_oldAt_53, t1, o3, hpa, jL, jJ, jI_lt, jI_le, jI_eq, jI_nat, jBt, jBo, x_let, if_pos, if_neg, if_true, Option.bind_some, wd_j, and_self, true_and, and_true, Int.toNat_zero, Int.toNat_natCast, isb0, isb1, ih])
  simp only [f_X12_oldAt, old_, hN, hf, jL]
  exact key
