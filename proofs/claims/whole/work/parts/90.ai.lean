/-! ===== again: the row ===== -/
def lm_9 (w : Nat → Int) : Int := if w 4 = 0 then 0 else w (937 + (w 4).toNat)
theorem lm9_b {gh : Nat} {x : Nat} {K : XK} {h : XH} (I : Inv gh x K h) : 0 ≤ lm_9 (wd x h) ∧ lm_9 (wd x h) ≤ 99999 := by
  have w4 := I.w4
  unfold lm_9
  split
  · omega
  · have b := I.1.2.2.2.2.2.1.1 ((wd x h 4).toNat - 1) (by omega)
    rw [show 938 + ((wd x h 4).toNat - 1) = 937 + (wd x h 4).toNat by omega] at b
    omega
theorem lm9_m {gh : Nat} {x : Nat} {K : XK} {h : XH} (I : Inv gh x K h) {e : Int} (he : lm_9 (wd x h) ≤ e) : ∀ k : Nat, (k : Int) < wd x h 4 → wd x h (938 + k) ≤ e := fun k hk => by
  have w4 := I.w4
  have u := WM.up I.1.2.2.2.2.2.1 (k := k) (m := (wd x h 4).toNat - 1) (by omega) (by omega)
  unfold lm_9 at he
  rw [if_neg (by omega)] at he
  rw [show 938 + ((wd x h 4).toNat - 1) = 937 + (wd x h 4).toNat by omega] at u
  omega
theorem c_lm9 {gh : Nat} {x : Nat} {K : XK} {h : XH} (I : Inv gh x K h) : f_X7_lastMoment (x + 9) h = some (jI (lm_9 (wd x h))) := by
  have w4 := I.w4
  have e12 : h.1 (x + 9) 12 = jI (wd x h 4) := I.2.1.1.2.2.2.2.2.2.1
  unfold f_X7_lastMoment lm_9
  rw [e12]
  by_cases c : wd x h 4 = 0
  · rw [if_neg (show ¬ (1 : Int32) ≤ jI (wd x h 4) from fun q => absurd ((jI_le (a := 1) (by omega) (by omega) (by omega) (by omega)).mp q) (by omega)), if_pos c]
    rfl
  · have m := I.2.1.2.2.2.2.1 ((wd x h 4).toNat - 1) (by omega)
    rw [show 938 + ((wd x h 4).toNat - 1) = 937 + (wd x h 4).toNat by omega] at m
    rw [if_pos (show (1 : Int32) ≤ jI (wd x h 4) from (jI_le (a := 1) (by omega) (by omega) (by omega) (by omega)).mpr (by omega)), if_neg c, show (1 : Int32) = jI 1 from rfl, jI_sub, if_pos (jI_b (by omega) (by omega) (by omega)), jI_nat (by omega) (by omega), show (wd x h 4 - 1).toNat = (wd x h 4).toNat - 1 by omega, m]
theorem c_again {gh : Nat} {x : Nat} {K : XK} {h : XH} (T : x_T x K h) (I : Inv gh x K h) {p t : Nat} (hp : (p : Int) < wd x h 1) (hq : 0 < wd x h (290 + 81 * p + 3)) (ht : (t : Int) < wd x h 2) {mo e : Int} (hmo : 0 ≤ mo ∧ mo < 2147483648) (he : lm_9 (wd x h) ≤ e ∧ e ≤ 99999) {v5 : Int32} :
    ∃ h2, f_X11_again K x h (jI t) (jI p) (jI mo) (jI e) v5 = some (.inr (if v5 = 0 then jI ((bq_ (sT_ (wd x h) t p e) mo (2 ^ (wd x h 4).toNat - 1)).1 : Int) else jI ((bq_ (sT_ (wd x h) t p e) mo (2 ^ (wd x h 4).toNat - 1)).2 - sT_ (wd x h) t p e 0)), h2) ∧ (∀ a, a ≠ x + 44 → a ≠ x + 45 → a ≠ x + 47 → a ≠ x + 48 → h2.1 a = h.1 a) ∧ h2.2 = h.2 := by
  have w1 := I.w1
  have w2 := I.w2
  have lb := lm9_b I
  have k48 : (K (x + 48)).2 = 49 := by rw [tk_ T (j := 48) (by omega) rfl]
  have fl := fill_ (h := h) (v0 := x + 48) (v := -1) k48 (by omega)
  obtain ⟨r, hr, ct⟩ := I.law ht
  have hx := I.wl ht
  have hm := lm9_m I he.1
  obtain ⟨M, hM⟩ : ∃ M : Nat, M = 49 := ⟨_, rfl⟩
  rw [← hM] at fl
  have g1 : ∀ a, a ≠ x + 44 → a ≠ x + 45 → a ≠ x + 47 → a ≠ x + 48 → (wr_ (x + 48) 0 (fun _ => -1) M h).1 a = h.1 a := fun a _ _ _ n => wr_n n
  have ca : CA (wd x h) t p e x (wr_ (x + 48) 0 (fun _ => -1) M h) := fun l z hl hz => by
    have z1 : (wr_ (x + 48) 0 (fun _ => -1) M h).1 (x + 48) (0 + (7 * l + z)) = jI (-1) := wr_i (by omega)
    rw [Nat.zero_add] at z1
    exact Or.inl z1
  have st := c_sTo I hp hq ct hx (by omega) hm (s := 0) (by omega) g1 wr_2 ca
  obtain ⟨h2, s1, s2, s3, s4⟩ := st
  obtain ⟨h3, k1, k2, k3⟩ := c_a89 I hp hq ht (by omega) hm hmo (v5 := v5) s2 s3 s4
  refine ⟨h3, ?_, k2, k3⟩
  unfold f_X11_again f_X5_forgetTouches
  rw [ckL_y I ⟨by omega, ht⟩, xb_v, ckT_y I hp hq, xb_v, if_neg (fun q => absurd ((jlt0 (by omega) (by omega)).mp q) (by omega)), c_lm9 I, Option.bind_some, if_neg (fun q => absurd ((jI_lt (by omega) (by omega) (by omega) (by omega)).mp q) (by omega)), if_neg (fun q => absurd ((jlt0 (by omega) (by omega)).mp q) (by omega)), if_pos (show jI e ≤ (99999 : Int32) from (jI_le (b := 99999) (by omega) (by omega) (by omega) (by omega)).mpr (by omega)), m1_, fl, Option.bind_some, Option.bind_some, if_pos (jI_b (by omega) (by omega) (by omega)), nat_ (by omega), show (wr_ (x + 48) 0 (fun _ => -1) M h).2.2 (x + 14) t = some r by rw [wr_2]; exact hr, show (0 : Int32) = jI ((0 : Nat) : Int) from rfl, s1, Option.bind_some, show (1 : Int32) = jI 1 from rfl]
  exact k1
theorem P_row27 {gh : Nat} {x : Nat} {K : XK} {h : XH} (T : x_T x K h) (I : Inv gh x K h) (a1 a2 a3 a4 a5 : Int32) : ∃ h', f_row27 K x h a1 a2 a3 a4 a5 = some h' ∧ Inv gh x K h' := by
  obtain ⟨z1, z1a, z1b, rfl⟩ := jI_ex a1
  obtain ⟨z2, z2a, z2b, rfl⟩ := jI_ex a2
  obtain ⟨z3, z3a, z3b, rfl⟩ := jI_ex a3
  obtain ⟨z4, z4a, z4b, rfl⟩ := jI_ex a4
  have e0 : ∀ b1 b2 b3 b4 b5, f_row27 K x h b1 b2 b3 b4 b5 = rc_ x (x_lb (f_X11_again K x h b1 b2 b3 b4 (if b5 = 0 then 0 else 1)) [0, 2, 1] (fun v h => x_l h (x + 76) (0 : Int32).toNatClampNeg v.toInt64)) (fun h => f_X12_again x h b1 b2 b3 b4 (if b5 = 0 then 0 else 1)) := fun _ _ _ _ _ => rfl
  rw [e0]
  generalize (if a5 = 0 then (0 : Int32) else 1) = v5
  have w1 := I.w1
  have w2 := I.w2
  have w4 := I.w4
  have lb := lm9_b I
  have g0 : jI z3 < (0 : Int32) ↔ z3 < 0 := jlt0 z3a z3b
  have g1 : jI z4 < jI (lm_9 (wd x h)) ↔ z4 < lm_9 (wd x h) := jI_lt z4a z4b (by omega) (by omega)
  have g2 : jI z4 < (0 : Int32) ↔ z4 < 0 := jlt0 z4a z4b
  have g3 : jI z4 ≤ (99999 : Int32) ↔ z4 ≤ 99999 := jI_le (b := 99999) z4a z4b (by omega) (by omega)
  by_cases cL : 0 ≤ z1 ∧ z1 < wd x h 2
  · obtain ⟨t, rfl⟩ : ∃ t : Nat, z1 = t := ⟨z1.toNat, by omega⟩
    by_cases cP : 0 ≤ z2 ∧ z2 < wd x h 1
    · obtain ⟨p, rfl⟩ : ∃ p : Nat, z2 = p := ⟨z2.toNat, by omega⟩
      have hp := cP.2
      by_cases hq : 0 < wd x h (290 + 81 * p + 3)
      · -- what the reference says of the numbers
        have rs : ∀ H : XH, wd x (x_i H (x + 64) 0 (jI 0)) = wd x h → Inv gh x K (x_i H (x + 64) 0 (jI 0)) → f_X12_again x H (jI t) (jI p) (jI z3) (jI z4) v5 = if z3 < 0 then f_X12_again_105 x (x_i H (x + 64) 0 (jI 0)) (jI t) (jI p) (jI z3) (jI z4) v5 (jI (wd x h 4)) else f_X12_again_94 x (x_i H (x + 64) 0 (jI 0)) (jI t) (jI p) (jI z3) (jI z4) v5 (jI (wd x h 4)) (jI z4) (jI (lm_9 (wd x h))) := fun H ew J => by
          have e1 := ckL_ry J (z := (t : Int)) (by rw [ew]; exact cL)
          have e2 := ckP_ry J (z := (p : Int)) (by rw [ew]; exact cP)
          have e3 := r_isp J (p := p) (by rw [ew]; exact hp)
          rw [ew, if_pos hq] at e3
          have e4 : (x_i H (x + 64) 0 (jI 0)).1 (x + 65) (4 : Int32).toNatClampNeg = jI (wd x h 4) := by
            rw [wd_j, ew]
            rfl
          unfold f_X12_again
          rw [xl_, show x_i H (x + 64) 0 (0 : Int32) = x_i H (x + 64) 0 (jI 0) from rfl, e1, Option.bind_some, if_pos (show jI 0 = (0 : Int32) from rfl), e2, Option.bind_some, if_pos (show jI 0 = (0 : Int32) from rfl), tv_0, Option.bind_some, if_pos (show (0 : Int32) = 0 from rfl), e3, Option.bind_some, if_neg (show ¬ jI 1 = (0 : Int32) by decide), tv_0, Option.bind_some, if_pos (show (0 : Int32) = 0 from rfl), if_pos (by decide), xl_, e4]
          by_cases c : z3 < 0
          · rw [if_pos (g0.mpr c), if_pos c]
          · rw [if_neg (fun q => c (g0.mp q)), if_neg c]
            unfold lm_9
            by_cases d : wd x h 4 = 0
            · rw [if_pos (show jI (wd x h 4) = (0 : Int32) by rw [d]; rfl), if_pos d]
              rfl
            · rw [if_neg (j_ne0 d (by omega) (by omega)), if_neg d, show (938 : Int32) = jI 938 from rfl, show (1 : Int32) = jI 1 from rfl, jI_add, jI_sub, if_pos (jI_b (by omega) (by omega) (by omega)), jI_nat (by omega) (by omega), show (938 + wd x h 4 - 1).toNat = 937 + (wd x h 4).toNat by omega, wd_j, ew]
        by_cases c : 0 ≤ z3 ∧ lm_9 (wd x h) ≤ z4 ∧ z4 ≤ 99999
        · obtain ⟨hh, q1, q2, q3⟩ := c_again T I hp hq cL.2 (mo := z3) (e := z4) ⟨c.1, z3b⟩ c.2 (v5 := v5)
          refine rc_q I (res := .inr (if v5 = 0 then jI ((bq_ (sT_ (wd x h) t p z4) z3 (2 ^ (wd x h 4).toNat - 1)).1 : Int) else jI ((bq_ (sT_ (wd x h) t p z4) z3 (2 ^ (wd x h 4).toNat - 1)).2 - sT_ (wd x h) t p z4 0))) ⟨hh, q1, Fr.o4 q2 q3 (by decide) (by decide) (by decide) (by decide)⟩ (fun H J eH => ?_)
          have ew : wd x (x_i H (x + 64) 0 (jI 0)) = wd x h := by rw [wm0, eH]
          have J0 := J.m0
          have hm := lm9_m I c.2.1
          have pb : 1 ≤ 2 ^ (wd x h 4).toNat ∧ 2 ^ (wd x h 4).toNat ≤ 64 := pw_b ⟨(wd x h 4).toNat, by omega⟩
          have rb := r_aBy J0 (p := p) (t := t) (e := z4) (s := 0) (by rw [ew]; exact hp) (by rw [ew]; exact hq) (by rw [ew]; exact cL.2) (by omega) (by rw [ew]; exact hm) (by rw [ew]; omega)
          rw [ew] at rb
          obtain ⟨H1, b1, b2, b3⟩ := rb
          have ra := r_a140 J0 (p := p) (t := t) (e := z4) (mo := z3) (v5 := v5) (h1 := H1) (by rw [ew]; exact hp) (by rw [ew]; exact hq) (by rw [ew]; exact cL.2) (by omega) (by rw [ew]; exact hm) ⟨c.1, z3b⟩ b2 b3
          rw [ew] at ra
          obtain ⟨H2, k1, k2, k3⟩ := ra
          refine ⟨_, H2, ?_, fr_0.tr (Fr.o2 k2 k3 (by decide) (by decide)), by rw [k3]; rfl, by rw [k2 _ (by omega) (by omega)]; exact gi_s, rfl⟩
          rw [rs H ew J0, if_neg (by omega)]
          unfold f_X12_again_94
          rw [if_neg (fun q => absurd (g1.mp q) (by omega)), if_pos (g3.mpr c.2.2), tv_0, Option.bind_some, if_pos (show (0 : Int32) = 0 from rfl), show (0 : Int32) = jI ((0 : Nat) : Int) from rfl, b1, Option.bind_some, show (1 : Int32) = jI 1 from rfl]
          exact k1
        · refine rc_q I (res := .inl 1) ⟨h, ?_, Fr.rf⟩ (fun H J eH => ⟨jI 0, x_i (x_i H (x + 64) 0 (jI 0)) (x + 64) 0 (jI 3), ?_, fr_t, rfl, 2, rfl, by decide, gi_s⟩)
          · unfold f_X11_again f_X11_again_39
            rw [ckL_y I cL, xb_v, ckT_y I hp hq, xb_v, c_lm9 I, Option.bind_some]
            by_cases d1 : z3 < 0
            · rw [if_pos (g0.mpr d1)]
            · rw [if_neg (fun q => d1 (g0.mp q))]
              by_cases d2 : z4 < lm_9 (wd x h)
              · rw [if_pos (g1.mpr d2)]
              · rw [if_neg (fun q => d2 (g1.mp q)), if_neg (fun q => absurd (g2.mp q) (by omega)), if_neg (fun q => absurd (g3.mp q) (by omega))]
          · have ew : wd x (x_i H (x + 64) 0 (jI 0)) = wd x h := by rw [wm0, eH]
            rw [rs H ew J.m0]
            by_cases d1 : z3 < 0
            · rw [if_pos d1]
              unfold f_X12_again_105 f_X12_again_110
              rw [tv_1, Option.bind_some, if_neg (show ¬ (1 : Int32) = 0 by decide)]
              rfl
            · rw [if_neg d1]
              unfold f_X12_again_94
              have e : (if jI z4 < jI (lm_9 (wd x h)) then (1 : Int32) else (if jI z4 ≤ 99999 then 0 else 1)) = 1 := by
                by_cases d2 : z4 < lm_9 (wd x h)
                · rw [if_pos (g1.mpr d2)]
                · rw [if_neg (fun q => d2 (g1.mp q)), if_neg (fun q => absurd (g3.mp q) (by omega))]
              rw [e, tv_1, Option.bind_some, if_neg (show ¬ (1 : Int32) = 0 by decide)]
              rfl
      · refine rc_q I (res := .inl 2) ⟨h, ?_, Fr.rf⟩ (fun H J eH => ⟨jI 0, x_i (x_i H (x + 64) 0 (jI 0)) (x + 64) 0 (jI 2), ?_, fr_t, rfl, 1, rfl, by decide, gi_s⟩)
        · unfold f_X11_again
          rw [ckL_y I cL, xb_v, ckT_n I hp hq, xb_e]
        · have ew : wd x (x_i H (x + 64) 0 (jI 0)) = wd x h := by rw [wm0, eH]
          have e1 := ckL_ry J.m0 (z := (t : Int)) (by rw [ew]; exact cL)
          have e2 := ckP_ry J.m0 (z := (p : Int)) (by rw [ew]; exact cP)
          have e3 := r_isp J.m0 (p := p) (by rw [ew]; exact hp)
          rw [ew, if_neg hq] at e3
          unfold f_X12_again
          rw [xl_, show x_i H (x + 64) 0 (0 : Int32) = x_i H (x + 64) 0 (jI 0) from rfl, e1, Option.bind_some, if_pos (show jI 0 = (0 : Int32) from rfl), e2, Option.bind_some, if_pos (show jI 0 = (0 : Int32) from rfl), tv_0, Option.bind_some, if_pos (show (0 : Int32) = 0 from rfl), e3, Option.bind_some, if_pos (show jI 0 = (0 : Int32) from rfl), tv_1, Option.bind_some, if_neg (show ¬ (1 : Int32) = 0 by decide)]
          rfl
    · refine rc_q I (res := .inl 0) ⟨h, ?_, Fr.rf⟩ (fun H J eH => ⟨jI 0, x_i (x_i H (x + 64) 0 (jI 0)) (x + 64) 0 (jI 1), ?_, fr_t, rfl, 0, rfl, by decide, gi_s⟩)
      · unfold f_X11_again
        rw [ckL_y I cL, xb_v, ckT_e I ⟨z2a, z2b⟩ cP, xb_e]
      · have ew : wd x (x_i H (x + 64) 0 (jI 0)) = wd x h := by rw [wm0, eH]
        have e1 := ckL_ry J.m0 (z := (t : Int)) (by rw [ew]; exact cL)
        have e2 := ckP_rn J.m0 (z := z2) ⟨z2a, z2b⟩ (by rw [ew]; exact cP)
        unfold f_X12_again
        rw [xl_, show x_i H (x + 64) 0 (0 : Int32) = x_i H (x + 64) 0 (jI 0) from rfl, e1, Option.bind_some, if_pos (show jI 0 = (0 : Int32) from rfl), e2, Option.bind_some, if_neg (show ¬ jI 1 = (0 : Int32) by decide), tv_1, Option.bind_some, if_neg (show ¬ (1 : Int32) = 0 by decide)]
        rfl
  · refine rc_q I (res := .inl 0) ⟨h, ?_, Fr.rf⟩ (fun H J eH => ⟨jI 0, x_i (x_i H (x + 64) 0 (jI 0)) (x + 64) 0 (jI 1), ?_, fr_t, rfl, 0, rfl, by decide, gi_s⟩)
    · unfold f_X11_again
      rw [ckL_n I ⟨z1a, z1b⟩ cL, xb_e]
    · have ew : wd x (x_i H (x + 64) 0 (jI 0)) = wd x h := by rw [wm0, eH]
      have e1 := ckL_rn J.m0 ⟨z1a, z1b⟩ (by rw [ew]; exact cL)
      unfold f_X12_again f_X12_again_22 f_X12_again_27
      rw [xl_, show x_i H (x + 64) 0 (0 : Int32) = x_i H (x + 64) 0 (jI 0) from rfl, e1, Option.bind_some, if_neg (show ¬ jI 1 = (0 : Int32) by decide), tv_1, Option.bind_some, if_neg (show ¬ (1 : Int32) = 0 by decide)]
      rfl
