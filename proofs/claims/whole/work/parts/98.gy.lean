/-! ===== guess: the row ===== -/
theorem P_row24 {gh : Nat} {x : Nat} {K : XK} {h : XH} (T : x_T x K h) (I : Inv gh x K h) (a1 a2 a3 : Int32) : ∃ h', f_row24 K x h a1 a2 a3 = some h' ∧ Inv gh x K h' := by
  obtain ⟨z1, z1a, z1b, rfl⟩ := jI_ex a1
  obtain ⟨z2, z2a, z2b, rfl⟩ := jI_ex a2
  obtain ⟨z3, z3a, z3b, rfl⟩ := jI_ex a3
  have e0 : ∀ b1 b2 b3, f_row24 K x h b1 b2 b3 = rc_ x (x_lb (f_X11_guess K x h b1 b2 b3) [0, 2, 4] (fun v h => x_l h (x + 76) (0 : Int32).toNatClampNeg v.toInt64)) (fun h => f_X12_guess x h b1 b2 b3) := fun _ _ _ => rfl
  rw [e0]
  have w1 := I.w1
  have w3 := I.w3
  have g0 : jI z3 < (0 : Int32) ↔ z3 < 0 := jlt0 z3a z3b
  have g1 : jI z3 ≤ (2 : Int32) ↔ z3 ≤ 2 := jI_le (b := 2) z3a z3b (by omega) (by omega)
  have g2 : (2 : Int32) < jI z3 ↔ 2 < z3 := jI_lt (a := 2) (by omega) (by omega) z3a z3b
  have i1 : ∀ h : XH, (if f_X12_in h (jI z3) 0 2 = 0 then (1 : Int32) else 0) = if 0 ≤ z3 ∧ z3 ≤ 2 then jI 0 else jI 1 := fun h => by
    unfold f_X12_in
    simp only [g0, g2]
    by_cases c : z3 < 0
    · rw [if_pos c, if_pos rfl, if_neg (by omega)]; rfl
    · by_cases d : 2 < z3
      · rw [if_neg c, if_pos d, if_pos rfl, if_neg (by omega)]; rfl
      · rw [if_neg c, if_neg d, if_neg (by decide), if_pos (by omega)]; rfl
  by_cases cL : 0 ≤ z1 ∧ z1 < wd x h 3
  · obtain ⟨t, rfl⟩ : ∃ t : Nat, z1 = t := ⟨z1.toNat, by omega⟩
    have ht := cL.2
    by_cases cP : 0 ≤ z2 ∧ z2 < wd x h 1
    · obtain ⟨p, rfl⟩ : ∃ p : Nat, z2 = p := ⟨z2.toNat, by omega⟩
      have hp := cP.2
      obtain ⟨-, -, -, -, -, -, p7, p8, -⟩ := I.wp hp
      by_cases hq : 0 < wd x h (290 + 81 * p + 3)
      · by_cases c : 0 ≤ z3 ∧ z3 ≤ 2
        · have lb := lm_b (w := wd x h) (p := p) (n := (wd x h (290 + 81 * p + 2)).toNat)
          have kb := kn_b (w := wd x h) (p := p) (k := 1) (n := (wd x h (290 + 81 * p + 2)).toNat)
          obtain ⟨M, hM⟩ : ∃ M : Nat, (M : Int) = if lm_ (wd x h) p (wd x h (290 + 81 * p + 2)).toNat < 6 then lm_ (wd x h) p (wd x h (290 + 81 * p + 2)).toNat else 6 := ⟨(if lm_ (wd x h) p (wd x h (290 + 81 * p + 2)).toNat < 6 then lm_ (wd x h) p (wd x h (290 + 81 * p + 2)).toNat else 6).toNat, by split <;> omega⟩
          obtain ⟨B, hB⟩ : ∃ B : Nat, (B : Int) = if kn_ (wd x h) p 1 (wd x h (290 + 81 * p + 2)).toNat < 5 then kn_ (wd x h) p 1 (wd x h (290 + 81 * p + 2)).toNat else 5 := ⟨(if kn_ (wd x h) p 1 (wd x h (290 + 81 * p + 2)).toNat < 5 then kn_ (wd x h) p 1 (wd x h (290 + 81 * p + 2)).toNat else 5).toNat, by split <;> omega⟩
          obtain ⟨mo, hmo⟩ : ∃ mo : Nat, mo = if B < M then B else M := ⟨_, rfl⟩
          have hmo' : (mo : Int) = if (if kn_ (wd x h) p 1 (wd x h (290 + 81 * p + 2)).toNat < lm_ (wd x h) p (wd x h (290 + 81 * p + 2)).toNat then kn_ (wd x h) p 1 (wd x h (290 + 81 * p + 2)).toNat else lm_ (wd x h) p (wd x h (290 + 81 * p + 2)).toNat) < 5 then (if kn_ (wd x h) p 1 (wd x h (290 + 81 * p + 2)).toNat < lm_ (wd x h) p (wd x h (290 + 81 * p + 2)).toNat then kn_ (wd x h) p 1 (wd x h (290 + 81 * p + 2)).toNat else lm_ (wd x h) p (wd x h (290 + 81 * p + 2)).toNat) else 5 := by
            split at hmo <;> split at hM <;> split at hB <;> split <;> (try split) <;> omega
          have M6 : M ≤ 6 := by split at hM <;> omega
          have B5 : B ≤ 5 ∧ (B : Int) ≤ kn_ (wd x h) p 1 (wd x h (290 + 81 * p + 2)).toNat := by split at hB <;> omega
          have mb : mo ≤ 5 ∧ mo ≤ M ∧ mo ≤ B := by split at hmo <;> omega
          obtain ⟨r, hr, ct⟩ := I.rul ht
          obtain ⟨h5, q1, q2, q3, q4, q5, q6⟩ := c_wei T I hp ht ct hM hmo'
          obtain ⟨u1, u2, u3⟩ := gq_e (S := GS_ (wd x h) t p M) (A := fun g => (tN_ M g 0 : Int)) mo
          have sb := GS_b I (t := t) (M := M) (g := (gq_ (GS_ (wd x h) t p M) (fun g => (tN_ M g 0 : Int)) mo).1) hp ht M6 (by omega) (by omega)
          have ab : 1 ≤ tN_ M (gq_ (GS_ (wd x h) t p M) (fun g => (tN_ M g 0 : Int)) mo).1 0 ∧ tN_ M (gq_ (GS_ (wd x h) t p M) (fun g => (tN_ M g 0 : Int)) mo).1 0 ≤ 720 := by
            have := tN_720 ⟨M, by omega⟩ ⟨(gq_ (GS_ (wd x h) t p M) (fun g => (tN_ M g 0 : Int)) mo).1, by omega⟩
            exact ⟨this.2 (by show (gq_ (GS_ (wd x h) t p M) (fun g => (tN_ M g 0 : Int)) mo).1 ≤ M; omega), this.1⟩
          refine rc_q I (res := .inr (gv_ (gq_ (GS_ (wd x h) t p M) (fun g => (tN_ M g 0 : Int)) mo) z3)) ⟨h5, ?_, Fr.o5 q2 q3 (by decide) (by decide) (by decide) (by decide) (by decide)⟩ (fun H J eH => ?_)
          · unfold f_X11_guess gv_
            rw [ckR_y I cL, xb_v, ckT_y I hp hq, xb_v, if_neg (fun q => absurd (g0.mp q) (by omega)), if_pos (g1.mpr c.2), if_pos (jI_b (by omega) (by omega) (by omega)), if_pos (jI_b (by omega) (by omega) (by omega)), nat_ (by omega), nat_ (by omega), hr, q1, Option.bind_some, q4, q5, q6, u2, u3]
            by_cases c0 : z3 = 0
            · rw [if_pos (show jI z3 = (0 : Int32) by rw [c0]; rfl), if_pos c0]
            · rw [if_neg (j_ne0 c0 (by omega) (by omega)), if_neg c0]
              generalize (gq_ (GS_ (wd x h) t p M) (fun g => (tN_ M g 0 : Int)) mo).1 = G at sb ab
              generalize GS_ (wd x h) t p M G = S at sb
              generalize tN_ M G 0 = A at ab
              have gp : 0 < Nat.gcd S.natAbs A := Nat.gcd_pos_of_pos_right _ (by omega)
              have gl : Nat.gcd S.natAbs A ≤ A := Nat.gcd_le_right _ (by omega)
              rw [c_com (by omega) (by omega) (by omega) (by omega), Option.bind_some, if_neg (fun q => absurd ((lI_0 (by omega)).mp q) (by omega)), Int.toNat_natCast]
              by_cases c1 : z3 = 1
              · rw [if_pos (show jI z3 = (1 : Int32) by rw [c1]; rfl), if_pos c1, ldz (by omega) (by omega) gp (by omega)]
              · rw [if_neg (show ¬ jI z3 = (1 : Int32) from fun q => c1 ((jI_eq (b := 1) (by omega) (by omega) (by omega) (by omega)).mp q)), if_neg c1, ldz (by omega) (by omega) gp (by omega)]
          · have ew : wd x (x_i H (x + 64) 0 (jI 0)) = wd x h := by rw [wm0, eH]
            have J0 := J.m0
            have e1 := ckR_ry J0 (z := (t : Int)) (by rw [ew]; exact cL)
            have e2 := ckP_ry J0 (z := (p : Int)) (by rw [ew]; exact cP)
            have e3 := r_isp J0 (p := p) (by rw [ew]; exact hp)
            have e4 := r_lackM J0 (p := p) (by rw [ew]; exact hp)
            rw [ew] at e3 e4
            rw [if_pos hq] at e3
            have mn : f_J9_min_7cf53 (x_i H (x + 64) 0 (jI 0)) 6 (jI (lm_ (wd x h) p (wd x h (290 + 81 * p + 2)).toNat)) = jI M := by
              unfold f_J9_min_7cf53
              have l : jI (lm_ (wd x h) p (wd x h (290 + 81 * p + 2)).toNat) < (6 : Int32) ↔ lm_ (wd x h) p (wd x h (290 + 81 * p + 2)).toNat < 6 := jI_lt (b := 6) (by omega) (by omega) (by omega) (by omega)
              by_cases d : lm_ (wd x h) p (wd x h (290 + 81 * p + 2)).toNat < 6
              · rw [if_pos (l.mpr d), hM, if_pos d]
              · rw [if_neg (fun q => d (l.mp q)), hM, if_neg d]
                rfl
            have f1 := fl72 J0 (v1 := jI t) (v3 := jI z3) (p := p) (M := M) (by rw [ew]; exact hp) M6
            rw [ew] at f1
            obtain ⟨H1, a1, a2, a3, a4⟩ := f1
            have F1 : Fr x (x_i H (x + 64) 0 (jI 0)) H1 := Fr.o1 a2 a3 (by decide)
            have ew1 : wd x H1 = wd x h := by rw [F1.ew, ew]
            have f2 := fl71 (J0.fr F1) (v1 := jI t) (v3 := jI z3) (v4 := jI M) (p := p) (B := B) (by rw [ew1]; exact hp) (by rw [ew1]; exact hB)
            rw [ew1] at f2
            obtain ⟨H2, b1, b2, b3, b4⟩ := f2
            have F2 : Fr x H1 H2 := Fr.o1 b2 b3 (by decide)
            have ew2 : wd x H2 = wd x h := by rw [F2.ew, ew1]
            have f3 := r_g190 ((J0.fr F1).fr F2) (t := t) (p := p) (M := M) (B := B) (mo := mo) (z := z3) (by rw [ew2]; exact hp) (by rw [ew2]; exact hq) (by rw [ew2]; exact ht) M6 B5.1 (by rw [ew2]; exact B5.2) hmo c (by rw [ew2]; exact b4) (by rw [ew2]; exact fun k hk => by rw [b2 _ (by omega)]; exact a4 k hk)
            rw [ew2] at f3
            obtain ⟨H3, d1, d2⟩ := f3
            refine ⟨_, H3, ?_, fr_0.tr (F1.tr (F2.tr d2.1)), by rw [d2.2.2.2.2, b3, a3]; rfl, by rw [d2.2.2.2.1, b2 _ (by omega), a2 _ (by omega)]; exact gi_s, rfl⟩
            unfold f_X12_guess
            rw [xl_, show x_i H (x + 64) 0 (0 : Int32) = x_i H (x + 64) 0 (jI 0) from rfl, e1, Option.bind_some, if_pos (show jI 0 = (0 : Int32) from rfl), e2, Option.bind_some, if_pos (show jI 0 = (0 : Int32) from rfl), tv_0, Option.bind_some, if_pos (show (0 : Int32) = 0 from rfl), e3, Option.bind_some, if_neg (show ¬ jI 1 = (0 : Int32) by decide), tv_0, Option.bind_some, if_pos (show (0 : Int32) = 0 from rfl), i1, if_pos c, tvz, Option.bind_some, if_pos (show jI 0 = (0 : Int32) from rfl), e4, Option.bind_some, mn, xl_, show (0 : Int32) = jI 0 from rfl, a1, b1]
            unfold f_X12_guess_178
            rw [m1_, show (0 : Int32) = jI 0 from rfl, show (1 : Int32) = jI 1 from rfl, d1]
        · refine rc_q I (res := .inl 4) ⟨h, ?_, Fr.rf⟩ (fun H J eH => ⟨jI 0, x_i (x_i H (x + 64) 0 (jI 0)) (x + 64) 0 (jI 3), ?_, fr_t, rfl, 2, rfl, by decide, gi_s⟩)
          · unfold f_X11_guess f_X11_guess_19
            rw [ckR_y I cL, xb_v, ckT_y I hp hq, xb_v]
            by_cases d : z3 < 0
            · rw [if_pos (g0.mpr d)]
            · rw [if_neg (fun q => d (g0.mp q)), if_neg (fun q => absurd (g1.mp q) (by omega))]
          · have ew : wd x (x_i H (x + 64) 0 (jI 0)) = wd x h := by rw [wm0, eH]
            have e1 := ckR_ry J.m0 (z := (t : Int)) (by rw [ew]; exact cL)
            have e2 := ckP_ry J.m0 (z := (p : Int)) (by rw [ew]; exact cP)
            have e3 := r_isp J.m0 (p := p) (by rw [ew]; exact hp)
            rw [ew, if_pos hq] at e3
            unfold f_X12_guess
            rw [xl_, show x_i H (x + 64) 0 (0 : Int32) = x_i H (x + 64) 0 (jI 0) from rfl, e1, Option.bind_some, if_pos (show jI 0 = (0 : Int32) from rfl), e2, Option.bind_some, if_pos (show jI 0 = (0 : Int32) from rfl), tv_0, Option.bind_some, if_pos (show (0 : Int32) = 0 from rfl), e3, Option.bind_some, if_neg (show ¬ jI 1 = (0 : Int32) by decide), tv_0, Option.bind_some, if_pos (show (0 : Int32) = 0 from rfl), i1, if_neg c, tvo, Option.bind_some, if_neg (show ¬ jI 1 = (0 : Int32) by decide)]
            rfl
      · refine rc_q I (res := .inl 2) ⟨h, ?_, Fr.rf⟩ (fun H J eH => ⟨jI 0, x_i (x_i H (x + 64) 0 (jI 0)) (x + 64) 0 (jI 2), ?_, fr_t, rfl, 1, rfl, by decide, gi_s⟩)
        · unfold f_X11_guess
          rw [ckR_y I cL, xb_v, ckT_n I hp hq, xb_e]
        · have ew : wd x (x_i H (x + 64) 0 (jI 0)) = wd x h := by rw [wm0, eH]
          have e1 := ckR_ry J.m0 (z := (t : Int)) (by rw [ew]; exact cL)
          have e2 := ckP_ry J.m0 (z := (p : Int)) (by rw [ew]; exact cP)
          have e3 := r_isp J.m0 (p := p) (by rw [ew]; exact hp)
          rw [ew, if_neg hq] at e3
          unfold f_X12_guess
          rw [xl_, show x_i H (x + 64) 0 (0 : Int32) = x_i H (x + 64) 0 (jI 0) from rfl, e1, Option.bind_some, if_pos (show jI 0 = (0 : Int32) from rfl), e2, Option.bind_some, if_pos (show jI 0 = (0 : Int32) from rfl), tv_0, Option.bind_some, if_pos (show (0 : Int32) = 0 from rfl), e3, Option.bind_some, if_pos (show jI 0 = (0 : Int32) from rfl), tv_1, Option.bind_some, if_neg (show ¬ (1 : Int32) = 0 by decide)]
          rfl
    · refine rc_q I (res := .inl 0) ⟨h, ?_, Fr.rf⟩ (fun H J eH => ⟨jI 0, x_i (x_i H (x + 64) 0 (jI 0)) (x + 64) 0 (jI 1), ?_, fr_t, rfl, 0, rfl, by decide, gi_s⟩)
      · unfold f_X11_guess
        rw [ckR_y I cL, xb_v, ckT_e I ⟨z2a, z2b⟩ cP, xb_e]
      · have ew : wd x (x_i H (x + 64) 0 (jI 0)) = wd x h := by rw [wm0, eH]
        have e1 := ckR_ry J.m0 (z := (t : Int)) (by rw [ew]; exact cL)
        have e2 := ckP_rn J.m0 (z := z2) ⟨z2a, z2b⟩ (by rw [ew]; exact cP)
        unfold f_X12_guess
        rw [xl_, show x_i H (x + 64) 0 (0 : Int32) = x_i H (x + 64) 0 (jI 0) from rfl, e1, Option.bind_some, if_pos (show jI 0 = (0 : Int32) from rfl), e2, Option.bind_some, if_neg (show ¬ jI 1 = (0 : Int32) by decide), tv_1, Option.bind_some, if_neg (show ¬ (1 : Int32) = 0 by decide)]
        rfl
  · refine rc_q I (res := .inl 0) ⟨h, ?_, Fr.rf⟩ (fun H J eH => ⟨jI 0, x_i (x_i H (x + 64) 0 (jI 0)) (x + 64) 0 (jI 1), ?_, fr_t, rfl, 0, rfl, by decide, gi_s⟩)
    · unfold f_X11_guess
      rw [ckR_n I ⟨z1a, z1b⟩ cL, xb_e]
    · have ew : wd x (x_i H (x + 64) 0 (jI 0)) = wd x h := by rw [wm0, eH]
      have e1 := ckR_rn J.m0 ⟨z1a, z1b⟩ (by rw [ew]; exact cL)
      unfold f_X12_guess f_X12_guess_22 f_X12_guess_27
      rw [xl_, show x_i H (x + 64) 0 (0 : Int32) = x_i H (x + 64) 0 (jI 0) from rfl, e1, Option.bind_some, if_neg (show ¬ jI 1 = (0 : Int32) by decide), tv_1, Option.bind_some, if_neg (show ¬ (1 : Int32) = 0 by decide)]
      rfl
