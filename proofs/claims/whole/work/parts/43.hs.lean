/-! ===== house ===== -/
theorem WPk.c3 {w w' : Nat → Int} {b : Nat} (h : WPk w b) (h0 : w 0 ≤ 6) (hd : ∀ j : Nat, (j : Int) < w 0 → w (164 + 21 * j) ≤ 20) (e0 : w 0 ≤ w' 0) (e6 : w 6 ≤ w' 6) (e7 : w 7 ≤ w' 7) (eh : ∀ j : Nat, (j : Int) < w 0 → w' (164 + 21 * j) = w (164 + 21 * j)) (e : ∀ k, b ≤ k → k < b + 81 → w' k = w k) : WPk w' b := by
  obtain ⟨p1, p2, p3, p4, p5, p6, p7, p8, p9, p10, p11, p12, p13, p14⟩ := h
  have hp := pl_b p7 p8 p11 p12
  unfold WPk
  rw [e b (by omega) (by omega), e (b + 1) (by omega) (by omega), e (b + 2) (by omega) (by omega), e (b + 3) (by omega) (by omega), e (b + 4) (by omega) (by omega), e (b + 5) (by omega) (by omega), e (b + 6) (by omega) (by omega), e (b + 7) (by omega) (by omega), e (b + 8) (by omega) (by omega)]
  refine ⟨p1, p2, p3, p4, p5, p6, p7, p8, p9, by omega, p11, p12, fun i hi => ?_, fun hq => ?_⟩
  · rw [e (b + 29 + i) (by omega) (by omega)]; exact p13 i hi
  · obtain ⟨q1, q2, q3, q4, q5, q6, q7, q8, q9⟩ := p14 hq
    rw [eh (w (b + 4)).toNat (by omega)]
    have h20 := hd (w (b + 4)).toNat (by omega)
    refine ⟨q1, by omega, q3, q4, q5, q6, q7, by omega, fun k hk => ?_⟩
    rw [e (b + 9 + k) (by omega) (by omega)]
    obtain ⟨r1, r2⟩ := q9 k hk
    exact ⟨r1, by omega⟩
theorem Inv.hs {gh : Nat} {x : Nat} {K : XK} {h h' : XH} (I : Inv gh x K h) {M n : Nat} (hM : wd x h 0 = M) (h6 : M < 6) (hn : 1 ≤ n ∧ n ≤ 20)
    (w0 : wd x h' 0 = M + 1) (wM : wd x h' (164 + 21 * M) = n) (wL : ∀ d : Nat, d < 20 → wd x h' (165 + 21 * M + d) = (d : Int) % 10) (ew : ∀ k, k ≠ 0 → k < 164 + 21 * M ∨ 185 + 21 * M ≤ k → wd x h' k = wd x h k)
    (a91 : h'.1 (x + 9) 1 = jI ((M : Int) + 1)) (a9 : ∀ j, j ≠ 1 → h'.1 (x + 9) j = h.1 (x + 9) j) (a11 : h'.1 (x + 11) M = jI n) (b11 : ∀ k, k ≠ M → h'.1 (x + 11) k = h.1 (x + 11) k) (a12 : ∀ d, d < n → h'.1 (x + 12) (20 * M + d) = jI ((d : Int) % 10)) (b12 : ∀ k, k < 20 * M → h'.1 (x + 12) k = h.1 (x + 12) k)
    (ha : ∀ a, a ≠ x + 9 → a ≠ x + 11 → a ≠ x + 12 → a ≠ x + 64 → a ≠ x + 65 → h'.1 a = h.1 a) (m3 : h'.1 (x + 64) 3 = h.1 (x + 64) 3) (m5 : h'.1 (x + 64) 5 = h.1 (x + 64) 5) (m10 : h'.1 (x + 64) 10 = h.1 (x + 64) 10) (r : h'.2.2 = h.2.2) : Inv gh x K h' := by
  obtain ⟨iC, iD, iH, iP, iU, iM, iW, iN, iT⟩ := id I.1
  obtain ⟨w1, w2, w3, w4, w5, w6, w7, w8, w9, w10, w11, w12, w13, w14, w15, w16⟩ := id iC
  obtain ⟨⟨q1, q4, q6, q7, q8, q10, q12, q15⟩, -⟩ := id I.2.1
  have n1 := ew 1 (by omega) (by omega)
  have n2 := ew 2 (by omega) (by omega)
  have n3 := ew 3 (by omega) (by omega)
  have n4 := ew 4 (by omega) (by omega)
  have n5 := ew 5 (by omega) (by omega)
  have n6 := ew 6 (by omega) (by omega)
  have n7 := ew 7 (by omega) (by omega)
  have far : ∀ a, x + 77 ≤ a → h'.1 a = h.1 a := fun a h1 => ha a (by omega) (by omega) (by omega) (by omega) (by omega)
  have hC : WC (wd x h') := by
    unfold WC
    rw [w0, n1, n2, n3, n4, n5, n6, n7]
    exact ⟨by omega, by omega, w3, w4, w5, w6, w7, w8, w9, w10, w11, w12, w13, w14, w15, w16⟩
  have hH : WH (wd x h') := fun j hj => by
    rw [w0] at hj
    by_cases e : j = M
    · subst e
      rw [wM]
      exact ⟨by omega, by omega, fun d hd => by rw [wL d hd]; omega⟩
    · obtain ⟨g1, g2, g3⟩ := iH j (by omega)
      rw [ew (164 + 21 * j) (by omega) (by omega)]
      exact ⟨g1, g2, fun d hd => by rw [ew (165 + 21 * j + d) (by omega) (by omega)]; exact g3 d hd⟩
  have hP : WP (wd x h') := fun p hp => by
    rw [n1] at hp
    exact (iP p hp).c3 w2 (fun j hj => (iH j hj).2.1) (by omega) (by omega) (by omega) (fun j hj => ew _ (by omega) (by omega)) (fun k a b => ew k (by omega) (by omega))
  have hU : WU gh (wd x h') := iU.c iC n1 n7 (fun k a b => ew k (by omega) (by omega))
  have hT : WT (wd x h') := iT.c iC n2 n3 (fun k a b => ew k (by omega) (by omega))
  refine I.up ⟨hC, iD.c (fun k a b => ew k (by omega) (by omega)), hH, hP, hU, iM.c iC n4 (fun k a b => ew k (by omega) (by omega)), iW.c iC n5 (fun k a b => ew k (by omega) (by omega)), iN.c (fun k a b => ew k (by omega) (by omega)), hT⟩ ⟨⟨?_, ?_, ?_, ?_, ?_, ?_, ?_, ?_⟩, I.2.1.d2 (ha _ (by omega) (by omega) (by omega) (by omega) (by omega)) (fun k a b => ew k (by omega) (by omega)), ?_, I.2.1.d4 I.1 n1 (fun a h1 h2 => ha a (by omega) (by omega) (by omega) (by omega) (by omega)) (fun k a b => ew k (by omega) (by omega)), I.2.1.d5 I.1 n4 (ha _ (by omega) (by omega) (by omega) (by omega) (by omega)) (fun k a b => ew k (by omega) (by omega)), I.2.1.d6 (ha _ (by omega) (by omega) (by omega) (by omega) (by omega)) (fun k a b => ew k (by omega) (by omega)), I.2.1.d7 I.1 n5 (ha _ (by omega) (by omega) (by omega) (by omega) (by omega)) (fun k a b => ew k (by omega) (by omega)), I.2.1.d8 I.1 n2 r far (fun k a b => ew k (by omega) (by omega)), I.2.1.d9 I.1 n3 r far (fun k a b => ew k (by omega) (by omega)), I.2.1.d10 (fun a h1 h2 => ha a (by omega) (by omega) (by omega) (by omega) (by omega))⟩ far (ha _ (by omega) (by omega) (by omega) (by omega) (by omega)) (ha _ (by omega) (by omega) (by omega) (by omega) (by omega)) (ha _ (by omega) (by omega) (by omega) (by omega) (by omega)) (ha _ (by omega) (by omega) (by omega) (by omega) (by omega)) m3 m5 m10 r
  · rw [w0]; exact a91
  · rw [n1, a9 4 (by decide)]; exact q4
  · rw [n7, a9 6 (by decide)]; exact q6
  · rw [n6, a9 7 (by decide)]; exact q7
  · rw [n2, a9 8 (by decide)]; exact q8
  · rw [n3, a9 10 (by decide)]; exact q10
  · rw [n4, a9 12 (by decide)]; exact q12
  · rw [n5, a9 15 (by decide)]; exact q15
  · intro j hj
    rw [w0] at hj
    by_cases e : j = M
    · subst e
      refine ⟨by rw [wM]; exact a11, fun d hd => ?_⟩
      rw [wM] at hd
      rw [wL d (by omega)]
      exact a12 d (by omega)
    · have g := iH j (by omega)
      obtain ⟨f1, f2⟩ := I.2.1.2.2.1 j (by omega)
      refine ⟨?_, fun d hd => ?_⟩
      · rw [ew (164 + 21 * j) (by omega) (by omega)]
        exact (b11 j e).trans f1
      · rw [ew (164 + 21 * j) (by omega) (by omega)] at hd
        rw [ew (165 + 21 * j + d) (by omega) (by omega)]
        exact (b12 (20 * j + d) (by omega)).trans (f2 d hd)
theorem wd_li {x : Nat} {h : XH} {a b n : Nat} (k : Nat) (ha : x + 65 ≠ a) : wd x (li_ a b n h) k = wd x h k := by
  unfold wd
  rw [li_n ha]
theorem wd_lo {x : Nat} {h : XH} {b n : Nat} (k : Nat) (hk : k < b ∨ b + n ≤ k) : wd x (li_ (x + 65) b n h) k = wd x h k := by
  unfold wd
  rw [li_o hk]
/-- house -/
theorem P_row6 {gh : Nat} {x : Nat} {K : XK} {h : XH} (I : Inv gh x K h) (a1 : Int32) : ∃ h', f_row6 x h a1 = some h' ∧ Inv gh x K h' := by
  obtain ⟨⟨w1, w2, w3, w4, w5, w6, w7, w8, w9, w10, w11, w12, w13, w14, w15, w16⟩, -⟩ := id I.1
  obtain ⟨⟨e1, e4, e6, e7, e8, e10, e12, e15⟩, -⟩ := id I.2.1
  obtain ⟨z1, z1a, z1b, rfl⟩ := jI_ex a1
  have e0 : ∀ b1, f_row6 x h b1 = rc_ x (x_lb (f_X11_house x h b1) [1, 3] (fun v h => x_l h (x + 76) (0 : Int32).toNatClampNeg v.toInt64)) (fun h => f_X12_house x h b1) := fun _ => rfl
  rw [e0]
  obtain ⟨M, hM⟩ : ∃ m : Nat, wd x h 0 = (m : Int) := ⟨(wd x h 0).toNat, by omega⟩
  rw [hM] at e1
  by_cases c : 1 ≤ z1 ∧ z1 ≤ 20
  · obtain ⟨n, hn⟩ : ∃ m : Nat, z1 = (m : Int) := ⟨z1.toNat, by omega⟩
    subst hn
    by_cases d : M < 6
    · have eC : f_X11_house x h (jI n) = some (.inr (jI M), x_i (li_ (x + 12) (20 * M) n (x_i h (x + 11) M (jI n))) (x + 9) 1 (jI ((M : Int) + 1))) := by
        have := c_addH (x := x) (h := h) (M := M) (n := n) d (by omega) e1
        simp (disch := omega) only [f_X11_house, jL, jJ, jI_lt, jI_le, jI_eq, jI_nat, jBt, jBo, gi_, gl_, x_let, if_pos, if_neg, if_true, Option.bind_some, tvz, tvo, wd_j, and_self, true_and, and_true, Int.toNat_zero, Int.toNat_natCast, xb_v, xb_e, isb0, isb1, gil, gl2, wd_i, wd_l, e1, this]
      have eR : ∀ H : XH, wd x H = wd x h → f_X12_house x H (jI n) = some (jI M, x_i (li_ (x + 65) (165 + 21 * M) 20 (x_i (x_i H (x + 64) 0 (jI 0)) (x + 65) (164 + 21 * M) (jI n))) (x + 65) 0 (jI ((M : Int) + 1))) := fun H eH => by
        have e0 : H.1 (x + 65) 0 = jI M := by rw [wd_j, eH, hM]
        have t : (164 + 21 * (M : Int)).toNat = 164 + 21 * M := by omega
        have := r_addH (x := x) (h := x_i (x_i H (x + 64) 0 (jI 0)) (x + 65) (164 + 21 * M) (jI n)) d (by rw [gi_k (by omega), gi_n (by omega), e0])
        simp (disch := omega) only [f_X12_house, f_X12_in, jL, jJ, jI_lt, jI_le, jI_eq, jI_nat, jBt, jBo, gi_, gl_, x_let, if_pos, if_neg, if_true, Option.bind_some, tvz, tvo, and_self, true_and, and_true, Int.toNat_zero, Int.toNat_natCast, xb_v, xb_e, isb0, isb1, gil, gl2, wd_i, wd_l, e0, t, this]
      refine ⟨_, rc_v eC (eR _ (by funext k; rw [wd_l, wd_i _ (by omega), wd_li _ (by omega), wd_i _ (by omega)])) (by rw [gi_n (by omega), li_n (by omega), gi_n (by omega), gi_s]; rfl) (by rw [gi_2, li_2]; rfl), ?_⟩
      generalize (jI ((M : Int))).toInt64 = V
      generalize (0 : Int32).toNatClampNeg = u
      refine I.hs hM d (n := n) (by omega) ?_ ?_ (fun k hk => ?_) (fun k h0 hk => ?_) ?_ (fun j hj => ?_) ?_ (fun k hk => ?_) (fun k hk => ?_) (fun k hk => ?_) (fun a q1 q2 q3 q4 q5 => ?_) ?_ ?_ ?_ ?_
      · rw [wd_s _ (by omega) (by omega), if_pos rfl]
      · rw [wd_s _ (by omega) (by omega), if_neg (by omega), wd_lo _ (by omega), wd_s _ (by omega) (by omega), if_pos rfl]
      · rw [wd_s _ (by omega) (by omega), if_neg (by omega)]
        unfold wd
        rw [li_i hk, jI_toInt (by omega) (by omega)]
      · rw [wd_s _ (by omega) (by omega), if_neg (by omega), wd_lo _ (by omega), wd_s _ (by omega) (by omega), if_neg (by omega), wd_i _ (by omega), wd_l, wd_i _ (by omega), wd_li _ (by omega), wd_i _ (by omega)]
      · rw [gi_n (by omega), li_n (by omega), gi_n (by omega), gi_n (by omega), gl_, gi_s]
      · rw [gi_n (by omega), li_n (by omega), gi_n (by omega), gi_n (by omega), gl_, gi_k hj, li_n (by omega), gi_n (by omega)]
      · rw [gi_n (by omega), li_n (by omega), gi_n (by omega), gi_n (by omega), gl_, gi_n (by omega), li_n (by omega), gi_s]
      · rw [gi_n (by omega), li_n (by omega), gi_n (by omega), gi_n (by omega), gl_, gi_n (by omega), li_n (by omega), gi_k hk]
      · rw [gi_n (by omega), li_n (by omega), gi_n (by omega), gi_n (by omega), gl_, gi_n (by omega), li_i hk]
      · rw [gi_n (by omega), li_n (by omega), gi_n (by omega), gi_n (by omega), gl_, gi_n (by omega), li_o (by omega), gi_n (by omega)]
      · rw [gi_n (by omega), li_n (by omega), gi_n (by omega), gi_n (by omega), gl_, gi_n (by omega), li_n (by omega), gi_n (by omega)]
      · rw [gi_n (by omega), li_n (by omega), gi_n (by omega), gi_k (by omega), gl_, gi_n (by omega), li_n (by omega), gi_n (by omega)]
      · rw [gi_n (by omega), li_n (by omega), gi_n (by omega), gi_k (by omega), gl_, gi_n (by omega), li_n (by omega), gi_n (by omega)]
      · rw [gi_n (by omega), li_n (by omega), gi_n (by omega), gi_k (by omega), gl_, gi_n (by omega), li_n (by omega), gi_n (by omega)]
      · rw [gir, li_2, gir, gir, glr, gir, li_2, gir]
    · refine ⟨x_i (x_i h (x + 64) 0 (jI 0)) (x + 64) 0 (jI 2), rc_e (r := jI 0) (h1 := h) (e := 3) (j := 1) ?_ rfl (by decide) ?_ ?_, I.fr fr_t⟩
      · simp (disch := omega) only [f_X11_house, jL, jJ, jI_lt, jI_le, jI_eq, jI_nat, jBt, jBo, gi_, gl_, x_let, if_pos, if_neg, if_true, Option.bind_some, tvz, tvo, wd_j, and_self, true_and, and_true, Int.toNat_zero, Int.toNat_natCast, xb_v, xb_e, isb0, isb1, gil, gl2, wd_i, wd_l, e1]
      · have e0 : h.1 (x + 65) 0 = jI 6 := by rw [wd_j, show wd x h 0 = 6 by omega]
        simp (disch := omega) only [f_X12_house, f_X12_house_52, f_X12_in, jL, jJ, jI_lt, jI_le, jI_eq, jI_nat, jBt, jBo, gi_, gl_, x_let, if_pos, if_neg, if_true, Option.bind_some, tvz, tvo, and_self, true_and, and_true, Int.toNat_zero, Int.toNat_natCast, xb_v, xb_e, isb0, isb1, gil, gl2, wd_i, wd_l, e0]
      · simp (disch := omega) only [gi_n, gi_s]; rfl
  · refine ⟨x_i (x_i h (x + 64) 0 (jI 0)) (x + 64) 0 (jI 1), rc_e (r := jI 0) (h1 := h) (e := 1) (j := 0) ?_ rfl (by decide) ?_ ?_, I.fr fr_t⟩
    · by_cases d1 : z1 < 1
      · simp (disch := omega) only [f_X11_house, f_X11_house_11, jL, jJ, jI_lt, jI_le, jI_eq, jI_nat, jBt, jBo, gi_, gl_, x_let, if_pos, if_neg, if_true, Option.bind_some, tvz, tvo, wd_j, and_self, true_and, and_true, Int.toNat_zero, Int.toNat_natCast, xb_v, xb_e, isb0, isb1, gil, gl2, wd_i, wd_l]
      · simp (disch := omega) only [f_X11_house, f_X11_house_11, jL, jJ, jI_lt, jI_le, jI_eq, jI_nat, jBt, jBo, gi_, gl_, x_let, if_pos, if_neg, if_true, Option.bind_some, tvz, tvo, wd_j, and_self, true_and, and_true, Int.toNat_zero, Int.toNat_natCast, xb_v, xb_e, isb0, isb1, gil, gl2, wd_i, wd_l]
    · by_cases d1 : z1 < 1
      · simp (disch := omega) only [f_X12_house, f_X12_house_52, f_X12_in, jL, jJ, jI_lt, jI_le, jI_eq, jI_nat, jBt, jBo, gi_, gl_, x_let, if_pos, if_neg, if_true, Option.bind_some, tvz, tvo, and_self, true_and, and_true, Int.toNat_zero, Int.toNat_natCast, xb_v, xb_e, isb0, isb1, gil, gl2, wd_i, wd_l]
      · simp (disch := omega) only [f_X12_house, f_X12_house_52, f_X12_in, jL, jJ, jI_lt, jI_le, jI_eq, jI_nat, jBt, jBo, gi_, gl_, x_let, if_pos, if_neg, if_true, Option.bind_some, tvz, tvo, and_self, true_and, and_true, Int.toNat_zero, Int.toNat_natCast, xb_v, xb_e, isb0, isb1, gil, gl2, wd_i, wd_l]
    · simp (disch := omega) only [gi_n, gi_s]; rfl
