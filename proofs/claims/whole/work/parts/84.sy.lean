/-! ===== a card is said: one cell on both sides ===== -/
def us_ (w : Nat → Int) (p i : Nat) (c : Int) : Nat → Int := fun k => if k = 290 + 81 * p + 29 + i then c else w k
def sa_ (x : Nat) (h : XH) (p i : Nat) (c : Int) : XH := x_i (x_i h (x + 13 + 6 + 3 * p + 2) i (jI c)) (x + 65) (290 + 81 * p + 29 + i) (jI c)
theorem us_o {w : Nat → Int} {p i k : Nat} {c : Int} (hk : k ≠ 290 + 81 * p + 29 + i) : us_ w p i c k = w k := if_neg hk
theorem us_i {w : Nat → Int} {p i : Nat} {c : Int} : us_ w p i c (290 + 81 * p + 29 + i) = c := if_pos rfl
theorem sa_w {x : Nat} {h : XH} {p i : Nat} {c : Int} (hp : p < 8) (hc : -1 ≤ c ∧ c < 52) : wd x (sa_ x h p i c) = us_ (wd x h) p i c := by
  funext k
  unfold sa_ us_
  rw [wd_s k (by omega) (by omega), wd_i k (by omega)]
theorem WPk.us {w : Nat → Int} {p i : Nat} {c : Int} (h : WPk w (290 + 81 * p)) (h0 : w 0 ≤ 6) (hi : i < 52) (hc : -1 ≤ c ∧ c < 52) (hd : ∀ j : Nat, (j : Int) < w 0 → w (164 + 21 * j) ≤ 20) : WPk (us_ w p i c) (290 + 81 * p) := by
  have u : ∀ k, k ≠ 290 + 81 * p + 29 + i → us_ w p i c k = w k := fun k hk => us_o hk
  obtain ⟨p1, p2, p3, p4, p5, p6, p7, p8, p9, p10, p11, p12, p13, p14⟩ := h
  unfold WPk
  rw [u (290 + 81 * p) (by omega), u (290 + 81 * p + 1) (by omega), u (290 + 81 * p + 2) (by omega), u (290 + 81 * p + 3) (by omega), u (290 + 81 * p + 4) (by omega), u (290 + 81 * p + 5) (by omega), u (290 + 81 * p + 6) (by omega), u (290 + 81 * p + 7) (by omega), u (290 + 81 * p + 8) (by omega), u 0 (by omega), u 6 (by omega), u 7 (by omega)]
  refine ⟨p1, p2, p3, p4, p5, p6, p7, p8, p9, p10, p11, p12, fun j hj => ?_, fun hq => ?_⟩
  · by_cases e : j = i
    · subst e
      rw [us_i]
      exact hc
    · rw [u _ (by omega)]
      exact p13 j hj
  · obtain ⟨q1, q2, q3, q4, q5, q6, q7, q8, q9⟩ := p14 hq
    have hd9 := hd (w (290 + 81 * p + 4)).toNat (by omega)
    rw [u (164 + 21 * (w (290 + 81 * p + 4)).toNat) (by omega)]
    exact ⟨q1, q2, q3, q4, q5, q6, q7, q8, fun k hk => by rw [u _ (by omega)]; exact q9 k hk⟩
theorem WU.us {gh : Nat} {w : Nat → Int} {p i : Nat} {c : Int} (h : WU gh w) (h8 : w 1 ≤ 8) (hp : p < 8) (hi : i < 52) : WU gh (us_ w p i c) := by
  have u : ∀ k, k ≠ 290 + 81 * p + 29 + i → us_ w p i c k = w k := fun k hk => us_o hk
  have e3 : ∀ q : Nat, us_ w p i c (293 + 81 * q) = w (293 + 81 * q) := fun q => u _ (by omega)
  have e8 : ∀ q : Nat, us_ w p i c (298 + 81 * q) = w (298 + 81 * q) := fun q => u _ (by omega)
  unfold WU
  simp only [e3, e8, u 1 (by omega), u 7 (by omega)]
  exact h
theorem Inv.sa {gh : Nat} {x : Nat} {K : XK} {h : XH} (I : Inv gh x K h) {p i : Nat} (hp : (p : Int) < wd x h 1) (hi : i < 52) {c : Int} (hc : -1 ≤ c ∧ c < 52) : Inv gh x K (sa_ x h p i c) := by
  have w1 := I.w1
  have w0 := I.w0
  have w6 := I.w6
  have w7 := I.w7
  have hw := sa_w (x := x) (h := h) (p := p) (i := i) (c := c) (by omega) hc
  have u : ∀ k, k ≠ 290 + 81 * p + 29 + i → wd x (sa_ x h p i c) k = wd x h k := fun k hk => by rw [hw]; exact us_o hk
  have hd : ∀ j : Nat, (j : Int) < wd x h 0 → wd x h (164 + 21 * j) ≤ 20 := fun j hj => (I.1.2.2.1 j hj).2.1
  have ra : ∀ a, a ≠ x + 13 + 6 + 3 * p + 2 → a ≠ x + 65 → (sa_ x h p i c).1 a = h.1 a := fun a n1 n2 => by
    unfold sa_
    rw [gi_n n2, gi_n n1]
  refine I.pu (p := p) (by omega) (Or.inl ⟨u 1 (by omega), hp⟩) ?_ ?_ ?_ (fun k _ _ _ hk => u k (by omega)) ?_ ?_ (fun j _ _ _ => by rw [ra _ (by omega) (by omega)]) ?_ ?_ ?_ (fun a n1 n2 n3 n4 => ra a (by omega) n4) (by rw [ra _ (by omega) (by omega)]) (by rw [ra _ (by omega) (by omega)]) (by rw [ra _ (by omega) (by omega)]) rfl
  · rw [hw]
    exact (I.wp hp).us w0.2 hi hc hd
  · obtain ⟨c1, c2, c3, c4, c5, c6⟩ := I.pk hp
    unfold CPk
    rw [ra (x + 13 + 6 + 3 * p) (by omega) (by omega), ra (x + 13 + 6 + 3 * p + 1) (by omega) (by omega), u (290 + 81 * p) (by omega), u (290 + 81 * p + 1) (by omega), u (290 + 81 * p + 2) (by omega), u (290 + 81 * p + 3) (by omega), u (290 + 81 * p + 4) (by omega), u (290 + 81 * p + 5) (by omega), u (290 + 81 * p + 6) (by omega), u (290 + 81 * p + 7) (by omega), u (290 + 81 * p + 8) (by omega)]
    refine ⟨c1, c2, c3, c4, fun j hj => ?_, fun hq => ?_⟩
    · have e : (sa_ x h p i c).1 (x + 13 + 6 + 3 * p + 2) j = if j = i then jI c else h.1 (x + 13 + 6 + 3 * p + 2) j := by
        unfold sa_
        rw [gi_n (show x + 13 + 6 + 3 * p + 2 ≠ x + 65 by omega), gi_]
        by_cases q : j = i
        · rw [if_pos ⟨rfl, q⟩, if_pos q]
        · rw [if_neg (fun z => q z.2), if_neg q]
      rw [e, hw]
      by_cases q : j = i
      · subst q
        rw [if_pos rfl, us_i]
      · rw [if_neg q, us_o (by omega)]
        exact c5 j hj
    · obtain ⟨d1, d2, d3, d4, d5, d6, t, q, d7, d8, d9, d10, d11, d12, d13⟩ := c6 hq
      have pl := (I.wp hp).pl hd
      refine ⟨d1, d2, d3, d4, d5, d6, t, q, d7, d8, d9, d10, d11, d12, fun k hk => ?_⟩
      rw [u _ (by omega)]
      exact d13 k hk
  · rw [hw]
    exact I.1.2.2.2.2.1.us w1.2 (by omega) hi
  · rw [u 6 (by omega)]
    omega
  · rw [u 7 (by omega)]
    omega
  · rw [ra _ (by omega) (by omega), u 1 (by omega)]
    exact I.2.1.1.2.1
  · rw [ra _ (by omega) (by omega), u 7 (by omega)]
    exact I.2.1.1.2.2.1
  · rw [ra _ (by omega) (by omega), u 6 (by omega)]
    exact I.2.1.1.2.2.2.1
theorem Cv.ag {gh : Nat} {x : Nat} {K : XK} {h h' : XH} {w : Nat → Int} (I : Cv gh x K h w) (f : ∀ a, a ≠ x + 44 → a ≠ x + 45 → a ≠ x + 50 → a ≠ x + 65 → h'.1 a = h.1 a) (e : h'.2 = h.2) : Cv gh x K h' w :=
  ⟨I.1, I.2.1.c I.1 (fun _ _ _ _ _ _ => rfl) (fun r h1 _ a h2 _ => f a (by omega) (by omega) (by omega) (by omega)) (fun a h1 h2 => f a (by omega) (by omega) (by omega) (by omega)) (by rw [e]) (by rw [e]) (fun _ _ => rfl), trivial⟩
theorem wd_row {x : Nat} {H h : XH} (e : wd x H = wd x h) : H.1 (x + 65) = h.1 (x + 65) := by
  funext k
  rw [wd_j, wd_j, e]
theorem np_c {x : Nat} {H h : XH} (e : wd x H = wd x h) {v1 v2 : Int32} : f_X12_noPlace x H v1 v2 = f_X12_noPlace x h v1 v2 := by
  have r := wd_row e
  unfold f_X12_noPlace f_X12_noPack f_X12_none f_X12_of
  rw [r]
  rfl
theorem nk_c {x : Nat} {H h : XH} (e : wd x H = wd x h) {v1 : Int32} : f_X12_noPack x H v1 = f_X12_noPack x h v1 := by
  have r := wd_row e
  unfold f_X12_noPack f_X12_none
  rw [r]
  rfl
theorem nl_c {x : Nat} {H h : XH} (e : wd x H = wd x h) {v1 : Int32} : f_X12_noLaw x H v1 = f_X12_noLaw x h v1 := by
  have r := wd_row e
  unfold f_X12_noLaw f_X12_none
  rw [r]
  rfl
theorem Fr.wi {x : Nat} {a b : XH} {k : Nat} {v : Int32} (f : Fr x a b) : Fr x (x_i a (x + 65) k v) (x_i b (x + 65) k v) := by
  obtain ⟨f1, f2, f3, f4, f5, f6, f7⟩ := f
  refine ⟨fun q h1 h2 h3 => ?_, by rw [gi_n (by omega), gi_n (by omega)]; exact f2, by rw [gi_n (by omega), gi_n (by omega)]; exact f3, by rw [gi_n (by omega), gi_n (by omega)]; exact f4, by rw [gi_n (by omega), gi_n (by omega)]; exact f5, by rw [gi_n (by omega), gi_n (by omega)]; exact f6, f7⟩
  funext j
  rw [gi_, gi_, f1 q h1 h2 h3]
/-! ===== say ===== -/
theorem P_row16 {gh : Nat} {x : Nat} {K : XK} {h : XH} (I : Inv gh x K h) (a1 a2 a3 : Int32) : ∃ h', f_row16 x h a1 a2 a3 = some h' ∧ Inv gh x K h' := by
  obtain ⟨z1, z1a, z1b, rfl⟩ := jI_ex a1
  obtain ⟨z2, z2a, z2b, rfl⟩ := jI_ex a2
  obtain ⟨z3, z3a, z3b, rfl⟩ := jI_ex a3
  have e0 : ∀ b1 b2 b3, f_row16 x h b1 b2 b3 = rc_ x (x_lb (f_X11_say x h b1 b2 b3) [0, 2] (fun v h => x_l h (x + 76) (0 : Int32).toNatClampNeg v.toInt64)) (fun h => f_X12_say x h b1 b2 b3) := fun _ _ _ => rfl
  rw [e0]
  have w1 := I.w1
  have g0 : jI z3 < (-1 : Int32) ↔ z3 < -1 := by
    rw [m1_]
    exact jI_lt z3a z3b (by omega) (by omega)
  have g1 : jI z3 < (52 : Int32) ↔ z3 < 52 := jI_lt (b := 52) z3a z3b (by omega) (by omega)
  have g2 := jm1 z3a z3b
  have g3 : jI z3 < (0 : Int32) ↔ z3 < 0 := jlt0 z3a z3b
  have g4 : (51 : Int32) < jI z3 ↔ 51 < z3 := jI_lt (a := 51) (by omega) (by omega) z3a z3b
  have i1 : ∀ h : XH, (if jI z3 = -1 then (0 : Int32) else (if f_X12_noCard h (jI z3) = 0 then 0 else 1)) = if -1 ≤ z3 ∧ z3 < 52 then jI 0 else jI 1 := fun h => by
    unfold f_X12_noCard f_X12_in
    simp only [g2, g3, g4]
    by_cases c : z3 = -1
    · rw [if_pos c, if_pos (by omega)]; rfl
    · rw [if_neg c]
      by_cases d : z3 < 0
      · rw [if_pos d, if_pos rfl, if_neg (by decide), if_neg (by omega)]; rfl
      · rw [if_neg d]
        by_cases e : 51 < z3
        · rw [if_pos e, if_pos rfl, if_neg (by decide), if_neg (by omega)]; rfl
        · rw [if_neg e, if_neg (show ¬ (1 : Int32) = 0 by decide), if_pos (show (0 : Int32) = 0 from rfl), if_pos (by omega)]; rfl
  by_cases c : (0 ≤ z1 ∧ z1 < wd x h 1) ∧ 0 ≤ z2 ∧ z2 < wd x h (290 + 81 * z1.toNat + 2)
  · obtain ⟨c1, c2⟩ := c
    obtain ⟨p, rfl⟩ : ∃ p : Nat, z1 = p := ⟨z1.toNat, by omega⟩
    rw [Int.toNat_natCast] at c2
    have hp := c1.2
    obtain ⟨-, -, -, -, -, -, p7, p8, -⟩ := I.wp hp
    obtain ⟨i, rfl⟩ : ∃ i : Nat, z2 = i := ⟨z2.toNat, by omega⟩
    by_cases c3 : -1 ≤ z3 ∧ z3 < 52
    · by_cases hq : 0 < wd x h (290 + 81 * p + 3)
      · have S := I.sa hp (i := i) (by omega) c3
        have hw := sa_w (x := x) (h := h) (p := p) (i := i) (c := z3) (by omega) c3
        have o : ∀ k, k ≠ 290 + 81 * p + 29 + i → us_ (wd x h) p i z3 k = wd x h k := fun k hk => us_o hk
        have cv : Cv gh x K (x_i h (x + 13 + 6 + 3 * p + 2) i (jI z3)) (us_ (wd x h) p i z3) := by
          rw [← hw]
          exact S.cv.ag (fun a _ _ _ n => by unfold sa_; rw [gi_n n]) rfl
        obtain ⟨h6, q1, q2, q3⟩ := vc_kind cv (p := p) (i := (i : Int)) (by rw [o 1 (by omega)]; exact hp) (by rw [o _ (by omega)]; exact hq) (by rw [o _ (by omega)]; exact c2)
        have hC : f_X11_say x h (jI p) (jI i) (jI z3) = some (.inr (jI (kd_ (us_ (wd x h) p i z3) p i)), h6) := by
          unfold f_X11_say
          rw [ckI_y I hp c2, xb_v, if_neg (fun q => absurd (g0.mp q) (by omega)), if_pos (g1.mpr c3.2), ckT_y I hp hq, xb_v, if_pos (jI_b (by omega) (by omega) (by omega)), if_pos (jI_b (by omega) (by omega) (by omega)), xl_, nat_ (by omega), nat_ (by omega), q1, Option.bind_some]
        generalize hV : kd_ (us_ (wd x h) p i z3) p i = V at hC
        have F1 : Fr x (x_i h (x + 13 + 6 + 3 * p + 2) i (jI z3)) (x_i (x_l h6 (x + 76) (0 : Int32).toNatClampNeg (jI V).toInt64) (x + 64) 0 (jI 0)) := (Fr.o1 q2 q3 (by decide)).tr (Fr.l.tr fr_0)
        have F2 : Fr x (sa_ x h p i z3) (x_i (x_i (x_l h6 (x + 76) (0 : Int32).toNatClampNeg (jI V).toInt64) (x + 64) 0 (jI 0)) (x + 65) (290 + 81 * p + 29 + i) (jI z3)) := F1.wi
        have eH : wd x (x_i (x_l h6 (x + 76) (0 : Int32).toNatClampNeg (jI V).toInt64) (x + 64) 0 (jI 0)) = wd x h := by
          rw [F1.ew]
          funext k
          exact wd_i k (by omega)
        have rv : Rv gh x K (x_i (x_i (x_l h6 (x + 76) (0 : Int32).toNatClampNeg (jI V).toInt64) (x + 64) 0 (jI 0)) (x + 65) (290 + 81 * p + 29 + i) (jI z3)) := S.rw F2.ew
        have ew : wd x (x_i (x_i (x_l h6 (x + 76) (0 : Int32).toNatClampNeg (jI V).toInt64) (x + 64) 0 (jI 0)) (x + 65) (290 + 81 * p + 29 + i) (jI z3)) = us_ (wd x h) p i z3 := by rw [F2.ew, hw]
        have rk := sr_kind rv (p := p) (i := (i : Int)) (by rw [ew, o 1 (by omega)]; exact hp) (by rw [ew, o _ (by omega)]; exact hq) (by rw [ew, o _ (by omega)]; exact c2)
        rw [ew, hV] at rk
        have e3 := rq_isp I eH hp
        rw [if_pos hq] at e3
        have st := rq_set (x := x) (H := x_i (x_l h6 (x + 76) (0 : Int32).toNatClampNeg (jI V).toInt64) (x + 64) 0 (jI 0)) (p := p) (j := 29 + (i : Int)) (v := jI z3) (by omega) (by omega)
        rw [show (29 + (i : Int)).toNat = 29 + i by omega, ← Nat.add_assoc] at st
        refine ⟨x_i (x_i (x_l h6 (x + 76) (0 : Int32).toNatClampNeg (jI V).toInt64) (x + 64) 0 (jI 0)) (x + 65) (290 + 81 * p + 29 + i) (jI z3), rc_v hC ?_ (by rw [gi_n (by omega)]; exact gi_s) rfl, S.fr F2⟩
        show f_X12_say x (x_l h6 (x + 76) (0 : Int32).toNatClampNeg (jI V).toInt64) (jI p) (jI i) (jI z3) = _
        generalize hH : x_l h6 (x + 76) (0 : Int32).toNatClampNeg (jI V).toInt64 = H at eH rk e3 st ⊢
        unfold f_X12_say
        rw [xl_, show x_i H (x + 64) 0 (0 : Int32) = x_i H (x + 64) 0 (jI 0) from rfl, np_c eH, ckI_ry I hp c2, Option.bind_some, i1, if_pos (show jI 0 = (0 : Int32) from rfl), if_pos c3, tvz, Option.bind_some, if_pos (show jI 0 = (0 : Int32) from rfl), e3, Option.bind_some, if_neg (show ¬ jI 1 = (0 : Int32) by decide), tv_0, Option.bind_some, if_pos (show (0 : Int32) = 0 from rfl), show (29 : Int32) = jI 29 from rfl, jI_add, st, Option.bind_some, rk, Option.bind_some]
      · refine rc_q I (res := .inl 2) ⟨h, ?_, Fr.rf⟩ (fun H J eH => ⟨jI 0, x_i (x_i H (x + 64) 0 (jI 0)) (x + 64) 0 (jI 2), ?_, fr_t, rfl, 1, rfl, by decide, gi_s⟩)
        · unfold f_X11_say
          rw [ckI_y I hp c2, xb_v, if_neg (fun q => absurd (g0.mp q) (by omega)), if_pos (g1.mpr c3.2), ckT_n I hp hq, xb_e]
        · have ew : wd x (x_i H (x + 64) 0 (jI 0)) = wd x h := by rw [wm0, eH]
          have e2 := ckI_ry J.m0 (p := p) (i := (i : Int)) (by rw [ew]; exact hp) (by rw [ew]; exact c2)
          have e3 := r_isp J.m0 (p := p) (by rw [ew]; exact hp)
          rw [ew, if_neg hq] at e3
          unfold f_X12_say
          rw [xl_, show x_i H (x + 64) 0 (0 : Int32) = x_i H (x + 64) 0 (jI 0) from rfl, e2, Option.bind_some, i1, if_pos (show jI 0 = (0 : Int32) from rfl), if_pos c3, tvz, Option.bind_some, if_pos (show jI 0 = (0 : Int32) from rfl), e3, Option.bind_some, if_pos (show jI 0 = (0 : Int32) from rfl), tv_1, Option.bind_some, if_neg (show ¬ (1 : Int32) = 0 by decide)]
          rfl
    · refine rc_q I (res := .inl 0) ⟨h, ?_, Fr.rf⟩ (fun H J eH => ⟨jI 0, x_i (x_i H (x + 64) 0 (jI 0)) (x + 64) 0 (jI 1), ?_, fr_t, rfl, 0, rfl, by decide, gi_s⟩)
      · unfold f_X11_say
        rw [ckI_y I hp c2, xb_v]
        by_cases d : z3 < -1
        · rw [if_pos (g0.mpr d)]; rfl
        · rw [if_neg (fun q => d (g0.mp q)), if_neg (fun q => absurd (g1.mp q) (by omega))]; rfl
      · have ew : wd x (x_i H (x + 64) 0 (jI 0)) = wd x h := by rw [wm0, eH]
        have e2 := ckI_ry J.m0 (p := p) (i := (i : Int)) (by rw [ew]; exact hp) (by rw [ew]; exact c2)
        unfold f_X12_say
        rw [xl_, show x_i H (x + 64) 0 (0 : Int32) = x_i H (x + 64) 0 (jI 0) from rfl, e2, Option.bind_some, i1, if_pos (show jI 0 = (0 : Int32) from rfl), if_neg c3, tvo, Option.bind_some, if_neg (show ¬ jI 1 = (0 : Int32) by decide)]
        rfl
  · refine rc_q I (res := .inl 0) ⟨h, ?_, Fr.rf⟩ (fun H J eH => ⟨jI 0, x_i (x_i H (x + 64) 0 (jI 0)) (x + 64) 0 (jI 1), ?_, fr_t, rfl, 0, rfl, by decide, gi_s⟩)
    · unfold f_X11_say
      rw [ckI_n I ⟨z1a, z1b⟩ ⟨z2a, z2b⟩ c, xb_e]
    · have ew : wd x (x_i H (x + 64) 0 (jI 0)) = wd x h := by rw [wm0, eH]
      have e2 := ckI_rn J.m0 ⟨z1a, z1b⟩ ⟨z2a, z2b⟩ (by rw [ew]; exact c)
      unfold f_X12_say
      rw [xl_, show x_i H (x + 64) 0 (0 : Int32) = x_i H (x + 64) 0 (jI 0) from rfl, e2, Option.bind_some, if_neg (show ¬ jI 1 = (0 : Int32) by decide), tv_1, Option.bind_some, if_neg (show ¬ (1 : Int32) = 0 by decide)]
      rfl
