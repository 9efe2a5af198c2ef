/-! ===== a pack changes ===== -/
theorem sm_u {n p : Nat} {f g : Nat → Int} (hp : p < n) (h : ∀ i, i < n → i ≠ p → f i = g i) : sm_ n f = sm_ n g + (f p - g p) := by
  induction n with
  | zero => omega
  | succ n ih =>
    rw [sm_s, sm_s]
    by_cases e : p = n
    · subst e
      rw [sm_c (f := f) (g := g) (fun i hi => h i (by omega) (by omega))]
      omega
    · rw [ih (by omega) (fun i h1 h2 => h i (by omega) h2), h n (by omega) (by omega)]
      omega
/-- n numbers written, one after another -/
def wr_ (a b : Nat) (f : Nat → Int) : Nat → XH → XH
  | 0, h => h
  | n + 1, h => x_i (wr_ a b f n h) a (b + n) (jI (f n))
theorem wr_n {a b n : Nat} {f : Nat → Int} {h : XH} {q : Nat} (hq : q ≠ a) : (wr_ a b f n h).1 q = h.1 q := by
  induction n with
  | zero => rfl
  | succ n ih => exact (x_i_ne hq).trans ih
theorem wr_2 {a b n : Nat} {f : Nat → Int} {h : XH} : (wr_ a b f n h).2 = h.2 := by
  induction n with
  | zero => rfl
  | succ n ih => exact ih
theorem wr_i {a b n : Nat} {f : Nat → Int} {h : XH} {k : Nat} (hk : k < n) : (wr_ a b f n h).1 a (b + k) = jI (f k) := by
  induction n with
  | zero => omega
  | succ n ih =>
    show (x_i (wr_ a b f n h) a (b + n) _).1 a (b + k) = _
    by_cases e : k = n
    · subst e; exact gi_s
    · rw [gi_k (by omega)]; exact ih (by omega)
theorem wr_o {a b n : Nat} {f : Nat → Int} {h : XH} {k : Nat} (hk : k < b ∨ b + n ≤ k) : (wr_ a b f n h).1 a k = h.1 a k := by
  induction n with
  | zero => rfl
  | succ n ih =>
    show (x_i (wr_ a b f n h) a (b + n) _).1 a k = _
    rw [gi_k (by omega)]
    exact ih (by omega)
theorem wd_wo {x b n : Nat} {f : Nat → Int} {h : XH} (k : Nat) (hk : k < b ∨ b + n ≤ k) : wd x (wr_ (x + 65) b f n h) k = wd x h k := by
  unfold wd
  rw [wr_o hk]
theorem wd_wi {x b n : Nat} {f : Nat → Int} {h : XH} (k : Nat) (hk : k < n) (hf : -2147483648 ≤ f k ∧ f k < 2147483648) : wd x (wr_ (x + 65) b f n h) (b + k) = f k := by
  unfold wd
  rw [wr_i hk, jI_toInt hf.1 hf.2]
theorem Inv.pu {gh : Nat} {x : Nat} {K : XK} {h h' : XH} (I : Inv gh x K h) {p : Nat} (hp : p < 8) (n1 : wd x h' 1 = wd x h 1 ∧ (p : Int) < wd x h 1 ∨ wd x h' 1 = wd x h 1 + 1 ∧ (p : Int) = wd x h 1)
    (hQ : WPk (wd x h') (290 + 81 * p)) (hK : CPk h' (x + 13 + 6 + 3 * p) (wd x h') (290 + 81 * p)) (hU : WU gh (wd x h')) (ew : ∀ k, k ≠ 1 → k ≠ 6 → k ≠ 7 → k < 290 + 81 * p ∨ 371 + 81 * p ≤ k → wd x h' k = wd x h k)
    (c6 : wd x h 6 ≤ wd x h' 6 ∧ wd x h' 6 ≤ 1000000) (c7 : wd x h 7 ≤ wd x h' 7 ∧ wd x h' 7 ≤ 8) (e9 : ∀ j, j ≠ 4 → j ≠ 6 → j ≠ 7 → h'.1 (x + 9) j = h.1 (x + 9) j) (s4 : h'.1 (x + 9) 4 = jI (wd x h' 1)) (s6 : h'.1 (x + 9) 6 = jI (wd x h' 7)) (s7 : h'.1 (x + 9) 7 = jI (wd x h' 6))
    (ha : ∀ a, a ≠ x + 9 → a < x + 19 + 3 * p ∨ x + 22 + 3 * p ≤ a → a ≠ x + 64 → a ≠ x + 65 → h'.1 a = h.1 a) (m3 : h'.1 (x + 64) 3 = h.1 (x + 64) 3) (m5 : h'.1 (x + 64) 5 = h.1 (x + 64) 5) (m10 : h'.1 (x + 64) 10 = h.1 (x + 64) 10) (r : h'.2.2 = h.2.2) : Inv gh x K h' := by
  obtain ⟨iC, iD, iH, iP, iU, iM, iW, iN, iT⟩ := id I.1
  obtain ⟨w1, w2, w3, w4, w5, w6, w7, w8, w9, w10, w11, w12, w13, w14, w15, w16⟩ := id iC
  obtain ⟨⟨q1, q4, q6, q7, q8, q10, q12, q15⟩, -⟩ := id I.2.1
  have n0 := ew 0 (by omega) (by omega) (by omega) (by omega)
  have n2 := ew 2 (by omega) (by omega) (by omega) (by omega)
  have n3 := ew 3 (by omega) (by omega) (by omega) (by omega)
  have n4 := ew 4 (by omega) (by omega) (by omega) (by omega)
  have n5 := ew 5 (by omega) (by omega) (by omega) (by omega)
  have far : ∀ a, x + 77 ≤ a → h'.1 a = h.1 a := fun a h1 => ha a (by omega) (by omega) (by omega) (by omega)
  have hC : WC (wd x h') := by
    unfold WC
    rw [n0, n2, n3, n4, n5]
    exact ⟨w1, w2, by omega, by omega, w5, w6, w7, w8, w9, w10, w11, w12, by omega, c6.2, by omega, c7.2⟩
  have hP : WP (wd x h') := fun q hq => by
    by_cases e : q = p
    · subst e; exact hQ
    · exact (iP q (by omega)).c3 w2 (fun j hj => (iH j hj).2.1) (by omega) c6.1 c7.1 (fun j hj => ew _ (by omega) (by omega) (by omega) (by omega)) (fun k a b => ew k (by omega) (by omega) (by omega) (by omega))
  refine I.up ⟨hC, iD.c (fun k a b => ew k (by omega) (by omega) (by omega) (by omega)), iH.c iC n0 (fun k a b => ew k (by omega) (by omega) (by omega) (by omega)), hP, hU, iM.c iC n4 (fun k a b => ew k (by omega) (by omega) (by omega) (by omega)), iW.c iC n5 (fun k a b => ew k (by omega) (by omega) (by omega) (by omega)), iN.c (fun k a b => ew k (by omega) (by omega) (by omega) (by omega)), iT.c iC n2 n3 (fun k a b => ew k (by omega) (by omega) (by omega) (by omega))⟩ ⟨⟨?_, s4, s6, s7, ?_, ?_, ?_, ?_⟩, I.2.1.d2 (ha _ (by omega) (by omega) (by omega) (by omega)) (fun k a b => ew k (by omega) (by omega) (by omega) (by omega)), I.2.1.d3 I.1 n0 (ha _ (by omega) (by omega) (by omega) (by omega)) (ha _ (by omega) (by omega) (by omega) (by omega)) (fun k a b => ew k (by omega) (by omega) (by omega) (by omega)), ?_, I.2.1.d5 I.1 n4 (ha _ (by omega) (by omega) (by omega) (by omega)) (fun k a b => ew k (by omega) (by omega) (by omega) (by omega)), I.2.1.d6 (ha _ (by omega) (by omega) (by omega) (by omega)) (fun k a b => ew k (by omega) (by omega) (by omega) (by omega)), I.2.1.d7 I.1 n5 (ha _ (by omega) (by omega) (by omega) (by omega)) (fun k a b => ew k (by omega) (by omega) (by omega) (by omega)), I.2.1.d8 I.1 n2 r far (fun k a b => ew k (by omega) (by omega) (by omega) (by omega)), I.2.1.d9 I.1 n3 r far (fun k a b => ew k (by omega) (by omega) (by omega) (by omega)), fun q hq => ?_⟩ far (ha _ (by omega) (by omega) (by omega) (by omega)) (ha _ (by omega) (by omega) (by omega) (by omega)) (ha _ (by omega) (by omega) (by omega) (by omega)) (ha _ (by omega) (by omega) (by omega) (by omega)) m3 m5 m10 r
  · rw [n0, e9 1 (by decide) (by decide) (by decide)]; exact q1
  · rw [n2, e9 8 (by decide) (by decide) (by decide)]; exact q8
  · rw [n3, e9 10 (by decide) (by decide) (by decide)]; exact q10
  · rw [n4, e9 12 (by decide) (by decide) (by decide)]; exact q12
  · rw [n5, e9 15 (by decide) (by decide) (by decide)]; exact q15
  · intro q hq
    by_cases e : q = p
    · subst e
      rw [show x + 9 + 10 + 3 * q = x + 13 + 6 + 3 * q by omega]
      exact hK
    · exact (I.2.1.2.2.2.1 q (by omega)).c ((iP q (by omega)).pl (fun j hj => (iH j hj).2.1)) (fun a h1 h2 => ha a (by omega) (by omega) (by omega) (by omega)) (fun k a b => ew k (by omega) (by omega) (by omega) (by omega))
  · by_cases e : q = p
    · subst e
      rw [show x + 9 + 10 + 3 * q = x + 13 + 6 + 3 * q by omega, hK.2.2.2.1]
      split <;> decide
    · rw [ha _ (by omega) (by omega) (by omega) (by omega)]
      exact I.2.1.2.2.2.2.2.2.2.2.2 q hq
/-! what the reference reads is the world alone -/
theorem rq_noP {gh : Nat} {x : Nat} {K : XK} {h H : XH} (I : Inv gh x K h) (eH : wd x H = wd x h) {z : Int} (hz : 0 ≤ z ∧ z < wd x h 1) : f_X12_noPack x H (jI z) = some (jI 0) := by
  have h1 := I.w1
  rw [← eH] at hz h1
  have t1 : (1 : Int).toNat = 1 := rfl
  simp (disch := omega) only [f_X12_noPack, f_X12_none, f_X12_in, jL, jJ, jI_lt, jI_le, jI_eq, jI_nat, jBt, jBo, gi_, gl_, x_let, if_pos, if_neg, if_true, Option.bind_some, tvz, tvo, wd_j, and_self, true_and, and_true, Int.toNat_zero, Int.toNat_natCast, xb_v, xb_e, isb0, isb1, gil, gl2, wd_i, wd_l, t1]
theorem rq_isp {gh : Nat} {x : Nat} {K : XK} {h H : XH} (I : Inv gh x K h) (eH : wd x H = wd x h) {p : Nat} (hp : (p : Int) < wd x h 1) : f_X12_isPut x H (jI (p : Int)) = some (jI (if 0 < wd x h (290 + 81 * p + 3) then 1 else 0)) := by
  have h1 := I.w1
  have h7 := I.1.1.2.2.2.2.2.2.2.2.2.2.2.2.2.2.2
  obtain ⟨-, -, -, -, -, -, -, -, p9, p10, -⟩ := I.wp hp
  have o3 := of_3 (x := x) (h := H) (p := p) (by omega)
  rw [eH] at o3
  by_cases c : 0 < wd x h (290 + 81 * p + 3)
  · simp (disch := omega) only [f_X12_isPut, jL, jJ, jI_lt, jI_le, jI_eq, jI_nat, jBt, jBo, gi_, gl_, x_let, if_pos, if_neg, if_true, Option.bind_some, tvz, tvo, and_self, true_and, and_true, Int.toNat_zero, Int.toNat_natCast, xb_v, xb_e, isb0, isb1, gil, gl2, wd_i, wd_l, o3]
  · simp (disch := omega) only [f_X12_isPut, jL, jJ, jI_lt, jI_le, jI_eq, jI_nat, jBt, jBo, gi_, gl_, x_let, if_pos, if_neg, if_true, Option.bind_some, tvz, tvo, and_self, true_and, and_true, Int.toNat_zero, Int.toNat_natCast, xb_v, xb_e, isb0, isb1, gil, gl2, wd_i, wd_l, o3]
theorem rq_pls {x : Nat} {H : XH} {p : Nat} {n per : Int} (hp : p < 8) (w2 : wd x H (290 + 81 * p + 2) = n) (w6 : wd x H (290 + 81 * p + 6) = per) (h1 : 3 ≤ n) (h2 : n ≤ 52) (h3 : 1 ≤ per) (h4 : per ≤ 3) : f_X12_places x H (jI (p : Int)) = some (jI (pl_ n per)) := by
  have o2 := of_2 (x := x) (h := H) (p := p) hp
  have o6 := of_6 (x := x) (h := H) (p := p) hp
  rw [w2] at o2
  rw [w6] at o6
  have e := r_pf (h := H) h1 h2 h3 h4
  simp (disch := omega) only [f_X12_places, jL, jJ, jI_lt, jI_le, jI_eq, jI_nat, jBt, jBo, gi_, gl_, x_let, if_pos, if_neg, if_true, Option.bind_some, tvz, tvo, and_self, true_and, and_true, Int.toNat_zero, Int.toNat_natCast, xb_v, xb_e, isb0, isb1, gil, gl2, wd_i, wd_l, o2, o6, e]
theorem rq_set {x : Nat} {H : XH} {p : Nat} {j : Int} {v : Int32} (hp : p < 8) (hj : 0 ≤ j ∧ j < 81) : f_X12_sets x H (jI (p : Int)) (jI j) v = some (x_i H (x + 65) (290 + 81 * p + j.toNat) v) := by
  have t : (290 + 81 * (p : Int) + j).toNat = 290 + 81 * p + j.toNat := by omega
  simp (disch := omega) only [f_X12_sets, jL, jJ, jI_lt, jI_le, jI_eq, jI_nat, jBt, jBo, gi_, gl_, x_let, if_pos, if_neg, if_true, Option.bind_some, tvz, tvo, and_self, true_and, and_true, Int.toNat_zero, Int.toNat_natCast, xb_v, xb_e, isb0, isb1, gil, gl2, wd_i, wd_l, t]
theorem r_touch {x : Nat} {H : XH} {p : Nat} {n per c s : Int} (hp : p < 8) (w2 : wd x H (290 + 81 * p + 2) = n) (w6 : wd x H (290 + 81 * p + 6) = per) (h1 : 3 ≤ n) (h2 : n ≤ 52) (h3 : 1 ≤ per) (h4 : per ≤ 3) (wc : wd x H 6 = c) :
    f_X12_touches x H (jI (p : Int)) (jI s) = some (x_i (wr_ (x + 65) (290 + 81 * p + 9) (fun k => c + k * s) (pl_ n per).toNat H) (x + 65) 6 (jI (c + pl_ n per * s))) := by
  have hb := pl_b h1 h2 h3 h4
  have t6 : (6 : Int).toNat = 6 := rfl
  have ep : ∀ i, f_X12_places x (wr_ (x + 65) (290 + 81 * p + 9) (fun k => c + k * s) i H) (jI (p : Int)) = some (jI (pl_ n per)) := fun i => rq_pls hp (by rw [wd_wo _ (by omega), w2]) (by rw [wd_wo _ (by omega), w6]) h1 h2 h3 h4
  have e6 : ∀ i, (wr_ (x + 65) (290 + 81 * p + 9) (fun k => c + k * s) i H).1 (x + 65) 6 = jI c := fun i => by rw [wd_j, wd_wo _ (by omega), wc]
  generalize pl_ n per = P at hb ep
  exact x_up0 (P := fun m i => f_X12_touches_2 x m (wr_ (x + 65) (290 + 81 * p + 9) (fun k => c + k * s) i H) (jI (p : Int)) (jI s) (jI (i : Int)) = some (x_i (wr_ (x + 65) (290 + 81 * p + 9) (fun k => c + k * s) P.toNat H) (x + 65) 6 (jI (c + P * s)))) P.toNat (by omega) (fun m => by
    simp (disch := omega) only [f_X12_touches_2, jL, jJ, jI_lt, jI_le, jI_eq, jI_nat, jBt, jBo, gi_, gl_, x_let, if_pos, if_neg, if_true, Option.bind_some, tvz, tvo, and_self, true_and, and_true, Int.toNat_zero, Int.toNat_natCast, xb_v, xb_e, isb0, isb1, gil, gl2, wd_i, wd_l, ep, e6, t6]) (fun m i hi ih => by
    have es := fun v => rq_set (x := x) (H := wr_ (x + 65) (290 + 81 * p + 9) (fun k => c + k * s) i H) (j := 9 + (i : Int)) (v := v) hp (by omega)
    have t : 290 + 81 * p + (9 + (i : Int)).toNat = 290 + 81 * p + 9 + i := by omega
    rw [t] at es
    have ih' : f_X12_touches_2 x m (x_i (wr_ (x + 65) (290 + 81 * p + 9) (fun k => c + k * s) i H) (x + 65) (290 + 81 * p + 9 + i) (jI (c + i * s))) (jI (p : Int)) (jI s) (jI ((i : Int) + 1)) = _ := ih
    simp (disch := omega) only [f_X12_touches_2, jL, jJ, jI_lt, jI_le, jI_eq, jI_nat, jBt, jBo, gi_, gl_, x_let, if_pos, if_neg, if_true, Option.bind_some, tvz, tvo, and_self, true_and, and_true, Int.toNat_zero, Int.toNat_natCast, xb_v, xb_e, isb0, isb1, gil, gl2, wd_i, wd_l, ep, e6, t6, es, ih'])
