/-! ===== odds ===== -/
theorem ab_j {h : XH} {a : Int} (h1 : -2147483648 < a) (h2 : a < 2147483648) : f_J9_abs_0f7a4 h (jI a) = jI (a.natAbs : Int) := by
  unfold f_J9_abs_0f7a4
  by_cases c : 0 ≤ a
  · rw [if_pos ((jge0 (by omega) (by omega)).mpr c), show (a.natAbs : Int) = a by omega]
  · rw [if_neg (fun q => c ((jge0 (by omega) (by omega)).mp q)), jI_neg, show (a.natAbs : Int) = -a by omega]
theorem r_com {h : XH} {a : Int} {b : Nat} (h1 : -2147483648 < a) (h2 : a < 2147483648) (hb : b < 2147483648) : f_X12_common h (jI a) (jI (b : Int)) = some (jI (Nat.gcd a.natAbs b : Int)) := by
  unfold f_X12_common
  rw [ab_j h1 h2, ab_j (by omega) (by omega), Int.natAbs_natCast, r_gcd 31 _ _ _ (by omega) (by decide) (by omega) hb]
theorem lI_ge {a : Int} (h1 : -9223372036854775808 ≤ a) (h2 : a < 9223372036854775808) : 0 ≤ lg_cmp (lI a) 0 ↔ 0 ≤ a := by
  have e : lg_cmp (lI a) 0 = _ := lI_cmp (a := a) (b := 0) h1 h2 (by omega) (by omega)
  rw [e]
  by_cases c : 0 < a
  · rw [if_pos c]
    exact ⟨fun _ => by omega, fun _ => by decide⟩
  · rw [if_neg c]
    by_cases d : a = 0
    · rw [if_pos d]
      exact ⟨fun _ => by omega, fun _ => by decide⟩
    · rw [if_neg d]
      exact ⟨fun q => absurd q (by decide), fun q => by omega⟩
theorem lI_neg (a : Int) : -lI a = lI (-a) := (Int64.ofInt_neg a).symm
theorem c_com {h : XH} {a : Int} {b : Nat} (h1 : -4611686018427387904 < a) (h2 : a < 4611686018427387904) (h0 : 0 < b) (hb : b < 2147483648) : f_X11_commonPart h (lI a) (lI (b : Int)) = some (lI (Nat.gcd a.natAbs b : Int)) := by
  have e1 : (if 0 ≤ lg_cmp (lI a) 0 then lI a else -lI a) = lI (a.natAbs : Int) := by
    by_cases c : 0 ≤ a
    · rw [if_pos ((lI_ge (by omega) (by omega)).mpr c), show (a.natAbs : Int) = a by omega]
    · rw [if_neg (fun q => c ((lI_ge (by omega) (by omega)).mp q)), lI_neg, show (a.natAbs : Int) = -a by omega]
  have e2 : (if 0 ≤ lg_cmp (lI (b : Int)) 0 then lI (b : Int) else -lI (b : Int)) = lI (b : Int) := if_pos ((lI_ge (by omega) (by omega)).mpr (by omega))
  unfold f_X11_commonPart
  rw [xl_, xl_, e1, e2]
  have k := c_gcd (h := h) 31 a.natAbs b x_FU 0 (by omega) (by decide) (by decide) (Or.inr h0) (by omega) (by omega)
  exact k
theorem jdv {a g : Nat} (ha : a < 2147483648) (h0 : 0 < g) (hg : g < 2147483648) : jI (a : Int) / jI (g : Int) = jI ((a / g : Nat) : Int) := by
  rw [jI_div (by omega) (by omega) (by omega) (by omega)]
  rfl
theorem ldv {a g : Nat} (ha : a < 2147483648) (h0 : 0 < g) (hg : g < 2147483648) : (lI (a : Int) / lI (g : Int)).toInt32 = jI ((a / g : Nat) : Int) := by
  have d := Nat.div_le_self a g
  rw [lI_N, lI_N, pk_lDiv (by omega) h0 (by omega), ← lI_N]
  generalize a / g = q at d
  rw [lI_j (by omega) (by omega)]
def ov_ (A B : Nat) (v5 : Int32) : Int32 := if v5 = 0 then jI ((A / Nat.gcd A B : Nat) : Int) else jI ((B / Nat.gcd A B : Nat) : Int)
theorem ov_m {A B k : Nat} {v5 : Int32} (hk : 0 < k) : ov_ (A * k) (B * k) v5 = ov_ A B v5 := by
  unfold ov_
  rw [Nat.gcd_mul_right, Nat.mul_div_mul_right _ _ hk, Nat.mul_div_mul_right _ _ hk]
theorem c_o113 {K : XK} {x : Nat} {h : XH} {A B : Nat} {v5 : Int32} (ha : A < 2147483648) (h0 : 0 < B) (hb : B < 2147483648) : f_X11_odds_113 K x h v5 (lI (A : Int)) (lI (B : Int)) = some (.inr (ov_ A B v5), h) := by
  have g0 : 0 < Nat.gcd A B := Nat.gcd_pos_of_pos_right _ h0
  have g1 : Nat.gcd A B ≤ B := Nat.gcd_le_right _ h0
  unfold f_X11_odds_113 ov_
  rw [c_com (by omega) (by omega) h0 hb, Option.bind_some, Int.natAbs_natCast, if_neg (fun q => absurd ((lI_0 (by omega)).mp q) (by omega))]
  by_cases c : v5 = 0
  · rw [if_pos c, if_pos c, ldv ha g0 (by omega)]
  · rw [if_neg c, if_neg c, ldv hb g0 (by omega)]
theorem r_o125 {x : Nat} {h : XH} {A L : Nat} {v5 : Int32} (ha : A < 2147483648) (h0 : 0 < L) (hb : L < 100) : f_X12_odds_125 x h v5 (jI (L : Int)) (jI (A : Int)) = some (ov_ A (100 * L) v5, h) := by
  have g0 : 0 < Nat.gcd A (100 * L) := Nat.gcd_pos_of_pos_right _ (by omega)
  have g1 : Nat.gcd A (100 * L) ≤ 100 * L := Nat.gcd_le_right _ (by omega)
  have e : (100 : Int32) * jI (L : Int) = jI ((100 * L : Nat) : Int) := by
    rw [show (100 : Int32) = jI 100 from rfl, jI_mul]
    rfl
  unfold f_X12_odds_125 ov_
  rw [e, r_com (by omega) (by omega) (by omega), Option.bind_some, Int.natAbs_natCast, if_neg (j_ne0 (by omega) (by omega) (by omega)), if_neg (j_ne0 (by omega) (by omega) (by omega))]
  by_cases c : v5 = 0
  · rw [if_pos c, if_pos c, jdv ha g0 (by omega)]
  · rw [if_neg c, if_neg c, jdv (by omega) g0 (by omega)]
theorem hn_b {w : Nat → Int} {t p : Nat} {ck i : Int} : 0 ≤ hn_ w t p ck i ∧ hn_ w t p ck i ≤ 100 := by
  unfold hn_ hg_
  exact cl_b _
def odv_ (w : Nat → Int) (t p : Nat) (i k : Int) (v5 : Int32) : Int32 := if k = 0 then ov_ (hn_ w t p (w 6) i).toNat 100 v5 else ov_ ((100 - hn_ w t p (w 6) i) * wt_ (sl_ w p i) k).toNat (100 * (wA_ (sl_ w p i) 5).toNat) v5
theorem c_odd {gh : Nat} {x : Nat} {K : XK} {h : XH} (I : Inv gh x K h) {p t : Nat} (hp : (p : Int) < wd x h 1) (hq : 0 < wd x h (290 + 81 * p + 3)) (ht : (t : Int) < wd x h 2) {i k : Int} (hi : 0 ≤ i ∧ i < wd x h (290 + 81 * p + 2)) (hk : 0 ≤ k ∧ k ≤ 5) {v5 : Int32} :
    ∃ h2, f_X11_odds K x h (jI t) (jI p) (jI i) (jI k) v5 = some (.inr (odv_ (wd x h) t p i k v5), h2) ∧ (∀ a, a ≠ x + 44 → a ≠ x + 45 → a ≠ x + 50 → h2.1 a = h.1 a) ∧ h2.2 = h.2 := by
  have w1 := I.w1
  have w2 := I.w2
  obtain ⟨r, hr, ct⟩ := I.law ht
  obtain ⟨hh, g1, g2, g3⟩ := c_now I hp hq ct (I.wl ht) hi
  have hb := hn_b (w := wd x h) (t := t) (p := p) (ck := wd x h 6) (i := i)
  have F : Fr x h hh := Fr.o2 g2 g3 (by decide) (by decide)
  have J := I.fr F
  have ew := F.ew
  unfold f_X11_odds
  rw [ckL_y I ⟨by omega, ht⟩, xb_v, ckI_y I hp hi, xb_v, ckT_y I hp hq, xb_v, if_neg (fun q => absurd ((jlt0 (by omega) (by omega)).mp q) (by omega)), if_pos (show jI k ≤ (5 : Int32) from (jI_le (b := 5) (by omega) (by omega) (by omega) (by omega)).mpr hk.2), if_pos (jI_b (by omega) (by omega) (by omega)), nat_ (by omega), hr, g1, Option.bind_some]
  by_cases c : k = 0
  · refine ⟨hh, ?_, fun a a1 a2 _ => g2 a a1 a2, g3⟩
    subst c
    obtain ⟨A, hA⟩ : ∃ A : Nat, hn_ (wd x h) t p (wd x h 6) i = A := ⟨(hn_ (wd x h) t p (wd x h 6) i).toNat, by omega⟩
    unfold odv_
    rw [if_pos (show jI 0 = (0 : Int32) from rfl), if_pos rfl, hA, Int.toNat_natCast, jI_l (by omega) (by omega), show (100 : Int64) = lI ((100 : Nat) : Int) from rfl, c_o113 (by omega) (by omega) (by omega)]
  · have fd := c_find J (p := p) (i := i) (by rw [ew]; exact hp) (by rw [ew]; exact hq) (by rw [ew]; exact hi)
    rw [ew] at fd
    obtain ⟨h9, k1, k2, k3, k4⟩ := fd
    have hs : SP x h9 (sl_ (wd x h) p i) := fun k k1 k2 => ⟨k4 k k1 k2, sl_b I⟩
    have b := wA_5 (f := sl_ (wd x h) p i)
    have wb := wt_b (f := sl_ (wd x h) p i) (k := k)
    have pb := i_st (a := wt_ (sl_ (wd x h) p i) k) (b := 0) (by omega) (by omega) (by omega) (by omega)
    have m0 : 0 ≤ (100 - hn_ (wd x h) t p (wd x h 6) i) * wt_ (sl_ (wd x h) p i) k := Int.mul_nonneg (by omega) wb.1
    have m1 : (100 - hn_ (wd x h) t p (wd x h 6) i) * wt_ (sl_ (wd x h) p i) k ≤ 100 * 3 := Int.mul_le_mul (by omega) wb.2 wb.1 (by omega)
    refine ⟨h9, ?_, fun a a1 a2 a3 => by rw [k2 a a3, g2 a a1 a2], by rw [k3, g3]⟩
    unfold odv_
    rw [if_neg (j_ne0 c (by omega) (by omega)), if_neg c, k1, Option.bind_some, c_wgt hs (by omega), Option.bind_some, xl_, c_allw hs, Option.bind_some, show (100 : Int32) = jI 100 from rfl, jI_sub, jI_mul, jI_mul, jI_l (by omega) (by omega), jI_l (by omega) (by omega)]
    obtain ⟨A, hA⟩ : ∃ A : Nat, (100 - hn_ (wd x h) t p (wd x h 6) i) * wt_ (sl_ (wd x h) p i) k = A := ⟨((100 - hn_ (wd x h) t p (wd x h 6) i) * wt_ (sl_ (wd x h) p i) k).toNat, by omega⟩
    obtain ⟨L, hL⟩ : ∃ L : Nat, wA_ (sl_ (wd x h) p i) 5 = L := ⟨(wA_ (sl_ (wd x h) p i) 5).toNat, by omega⟩
    rw [hA, hL, Int.toNat_natCast, Int.toNat_natCast, show (100 : Int) * (L : Int) = ((100 * L : Nat) : Int) by omega, c_o113 (by omega) (by omega) (by omega)]
theorem r_odd {gh : Nat} {x : Nat} {K : XK} {h : XH} (I : Inv gh x K h) {p t : Nat} (hp : (p : Int) < wd x h 1) (hq : 0 < wd x h (290 + 81 * p + 3)) (ht : (t : Int) < wd x h 2) {i k : Int} (hi : 0 ≤ i ∧ i < wd x h (290 + 81 * p + 2)) (hk : 0 ≤ k ∧ k ≤ 5) {v5 : Int32} :
    ∃ h2, Option.bind (f_X12_heldOf x h (jI t) (jI p) (jI i)) (fun q23 => Option.bind (f_X12_allWeights x q23.2 (jI p) (jI i)) (fun v_24 => if jI k = 0 then f_X12_odds_125 x q23.2 v5 v_24 (q23.1 * v_24) else Option.bind (f_X12_weightOf x q23.2 (jI p) (jI i) (jI k)) (fun v_25 => f_X12_odds_125 x q23.2 v5 v_24 ((100 - q23.1) * v_25)))) = some (odv_ (wd x h) t p i k v5, h2) ∧ (∀ a, a ≠ x + 69 → a ≠ x + 70 → h2.1 a = h.1 a) ∧ h2.2 = h.2 := by
  obtain ⟨hh, g1, g2, g3⟩ := r_now I hp hq ht hi
  have hb := hn_b (w := wd x h) (t := t) (p := p) (ck := wd x h 6) (i := i)
  have F : Fr x h hh := Fr.o2 g2 g3 (by decide) (by decide)
  have J := (I.fr F).rv
  have ew := F.ew
  have al := r_allw J (p := p) (i := i) (by rw [ew]; exact hp) (by rw [ew]; exact hq) (by rw [ew]; exact hi)
  rw [ew] at al
  have b := wA_5 (f := sl_ (wd x h) p i)
  obtain ⟨L, hL⟩ : ∃ L : Nat, wA_ (sl_ (wd x h) p i) 5 = L := ⟨(wA_ (sl_ (wd x h) p i) 5).toNat, by omega⟩
  refine ⟨hh, ?_, g2, g3⟩
  rw [g1, Option.bind_some, al, Option.bind_some]
  unfold odv_
  by_cases c : k = 0
  · subst c
    obtain ⟨A, hA⟩ : ∃ A : Nat, hn_ (wd x h) t p (wd x h 6) i = A := ⟨(hn_ (wd x h) t p (wd x h 6) i).toNat, by omega⟩
    have lm := Nat.mul_le_mul (show A ≤ 100 by omega) (show L ≤ 15 by omega)
    rw [if_pos (show jI 0 = (0 : Int32) from rfl), if_pos rfl, hA, hL, Int.toNat_natCast, jI_mul, show (A : Int) * (L : Int) = ((A * L : Nat) : Int) from (Int.natCast_mul A L).symm, r_o125 (by omega) (by omega) (by omega), ov_m (by omega)]
  · have wg := r_wgt J (p := p) (i := i) (k := k) (by rw [ew]; exact hp) (by rw [ew]; exact hq) (by rw [ew]; exact hi) (by omega)
    rw [ew] at wg
    have wb := wt_b (f := sl_ (wd x h) p i) (k := k)
    have m0 : 0 ≤ (100 - hn_ (wd x h) t p (wd x h 6) i) * wt_ (sl_ (wd x h) p i) k := Int.mul_nonneg (by omega) wb.1
    have m1 : (100 - hn_ (wd x h) t p (wd x h 6) i) * wt_ (sl_ (wd x h) p i) k ≤ 100 * 3 := Int.mul_le_mul (by omega) wb.2 wb.1 (by omega)
    obtain ⟨A, hA⟩ : ∃ A : Nat, (100 - hn_ (wd x h) t p (wd x h 6) i) * wt_ (sl_ (wd x h) p i) k = A := ⟨((100 - hn_ (wd x h) t p (wd x h 6) i) * wt_ (sl_ (wd x h) p i) k).toNat, by omega⟩
    rw [if_neg (j_ne0 c (by omega) (by omega)), if_neg c, wg, Option.bind_some, show (100 : Int32) = jI 100 from rfl, jI_sub, jI_mul, hA, hL, Int.toNat_natCast, Int.toNat_natCast, r_o125 (by omega) (by omega) (by omega)]
theorem P_row19 {gh : Nat} {x : Nat} {K : XK} {h : XH} (I : Inv gh x K h) (a1 a2 a3 a4 a5 : Int32) : ∃ h', f_row19 K x h a1 a2 a3 a4 a5 = some h' ∧ Inv gh x K h' := by
  obtain ⟨z1, z1a, z1b, rfl⟩ := jI_ex a1
  obtain ⟨z2, z2a, z2b, rfl⟩ := jI_ex a2
  obtain ⟨z3, z3a, z3b, rfl⟩ := jI_ex a3
  obtain ⟨z4, z4a, z4b, rfl⟩ := jI_ex a4
  have e0 : ∀ b1 b2 b3 b4 b5, f_row19 K x h b1 b2 b3 b4 b5 = rc_ x (x_lb (f_X11_odds K x h b1 b2 b3 b4 (if b5 = 0 then 0 else 1)) [0, 2, 1] (fun v h => x_l h (x + 76) (0 : Int32).toNatClampNeg v.toInt64)) (fun h => f_X12_odds x h b1 b2 b3 b4 (if b5 = 0 then 0 else 1)) := fun _ _ _ _ _ => rfl
  rw [e0]
  generalize (if a5 = 0 then (0 : Int32) else 1) = v5
  have w1 := I.w1
  have w2 := I.w2
  have g0 : jI z4 < (0 : Int32) ↔ z4 < 0 := jlt0 z4a z4b
  have g1 : jI z4 ≤ (5 : Int32) ↔ z4 ≤ 5 := jI_le (b := 5) z4a z4b (by omega) (by omega)
  have g2 : (5 : Int32) < jI z4 ↔ 5 < z4 := jI_lt (a := 5) (by omega) (by omega) z4a z4b
  have i1 : ∀ h : XH, (if f_X12_in h (jI z4) 0 5 = 0 then (1 : Int32) else 0) = if 0 ≤ z4 ∧ z4 ≤ 5 then jI 0 else jI 1 := fun h => by
    unfold f_X12_in
    simp only [g0, g2]
    by_cases c : z4 < 0
    · rw [if_pos c, if_pos rfl, if_neg (by omega)]; rfl
    · by_cases d : 5 < z4
      · rw [if_neg c, if_pos d, if_pos rfl, if_neg (by omega)]; rfl
      · rw [if_neg c, if_neg d, if_neg (by decide), if_pos (by omega)]; rfl
  by_cases cL : 0 ≤ z1 ∧ z1 < wd x h 2
  · obtain ⟨t, rfl⟩ : ∃ t : Nat, z1 = t := ⟨z1.toNat, by omega⟩
    by_cases c : (0 ≤ z2 ∧ z2 < wd x h 1) ∧ 0 ≤ z3 ∧ z3 < wd x h (290 + 81 * z2.toNat + 2)
    · obtain ⟨c1, c2⟩ := c
      obtain ⟨p, rfl⟩ : ∃ p : Nat, z2 = p := ⟨z2.toNat, by omega⟩
      rw [Int.toNat_natCast] at c2
      have hp := c1.2
      by_cases hq : 0 < wd x h (290 + 81 * p + 3)
      · by_cases ck : 0 ≤ z4 ∧ z4 ≤ 5
        · obtain ⟨hh, q1, q2, q3⟩ := c_odd I hp hq cL.2 c2 ck (v5 := v5)
          refine rc_q I (res := .inr (odv_ (wd x h) t p z3 z4 v5)) ⟨hh, q1, Fr.o3 q2 q3 (by decide) (by decide) (by decide)⟩ (fun H J eH => ?_)
          have ew : wd x (x_i H (x + 64) 0 (jI 0)) = wd x h := by rw [wm0, eH]
          have e1 := ckL_ry J.m0 (z := (t : Int)) (by rw [ew]; exact cL)
          have e2 := ckI_ry J.m0 (p := p) (i := z3) (by rw [ew]; exact hp) (by rw [ew]; exact c2)
          have e3 := r_isp J.m0 (p := p) (by rw [ew]; exact hp)
          rw [ew, if_pos hq] at e3
          have rn := r_odd J.m0 (p := p) (t := t) (by rw [ew]; exact hp) (by rw [ew]; exact hq) (by rw [ew]; exact cL.2) (i := z3) (k := z4) (by rw [ew]; exact c2) ck (v5 := v5)
          rw [ew] at rn
          obtain ⟨H2, k1, k2, k3⟩ := rn
          refine ⟨_, H2, ?_, fr_0.tr (Fr.o2 k2 k3 (by decide) (by decide)), by rw [k3]; rfl, by rw [k2 _ (by omega) (by omega)]; exact gi_s, rfl⟩
          unfold f_X12_odds
          rw [xl_, show x_i H (x + 64) 0 (0 : Int32) = x_i H (x + 64) 0 (jI 0) from rfl, e1, Option.bind_some, if_pos (show jI 0 = (0 : Int32) from rfl), e2, Option.bind_some, if_pos (show jI 0 = (0 : Int32) from rfl), tv_0, Option.bind_some, if_pos (show (0 : Int32) = 0 from rfl), e3, Option.bind_some, if_neg (show ¬ jI 1 = (0 : Int32) by decide), tv_0, Option.bind_some, if_pos (show (0 : Int32) = 0 from rfl), i1, if_pos ck, tvz, Option.bind_some, if_pos (show jI 0 = (0 : Int32) from rfl)]
          exact k1
        · refine rc_q I (res := .inl 1) ⟨h, ?_, Fr.rf⟩ (fun H J eH => ⟨jI 0, x_i (x_i H (x + 64) 0 (jI 0)) (x + 64) 0 (jI 3), ?_, fr_t, rfl, 2, rfl, by decide, gi_s⟩)
          · unfold f_X11_odds
            rw [ckL_y I cL, xb_v, ckI_y I hp c2, xb_v, ckT_y I hp hq, xb_v]
            by_cases d : z4 < 0
            · rw [if_pos (g0.mpr d)]; rfl
            · rw [if_neg (fun q => d (g0.mp q)), if_neg (fun q => absurd (g1.mp q) (by omega))]; rfl
          · have ew : wd x (x_i H (x + 64) 0 (jI 0)) = wd x h := by rw [wm0, eH]
            have e1 := ckL_ry J.m0 (z := (t : Int)) (by rw [ew]; exact cL)
            have e2 := ckI_ry J.m0 (p := p) (i := z3) (by rw [ew]; exact hp) (by rw [ew]; exact c2)
            have e3 := r_isp J.m0 (p := p) (by rw [ew]; exact hp)
            rw [ew, if_pos hq] at e3
            unfold f_X12_odds
            rw [xl_, show x_i H (x + 64) 0 (0 : Int32) = x_i H (x + 64) 0 (jI 0) from rfl, e1, Option.bind_some, if_pos (show jI 0 = (0 : Int32) from rfl), e2, Option.bind_some, if_pos (show jI 0 = (0 : Int32) from rfl), tv_0, Option.bind_some, if_pos (show (0 : Int32) = 0 from rfl), e3, Option.bind_some, if_neg (show ¬ jI 1 = (0 : Int32) by decide), tv_0, Option.bind_some, if_pos (show (0 : Int32) = 0 from rfl), i1, if_neg ck, tvo, Option.bind_some, if_neg (show ¬ jI 1 = (0 : Int32) by decide)]
            rfl
      · refine rc_q I (res := .inl 2) ⟨h, ?_, Fr.rf⟩ (fun H J eH => ⟨jI 0, x_i (x_i H (x + 64) 0 (jI 0)) (x + 64) 0 (jI 2), ?_, fr_t, rfl, 1, rfl, by decide, gi_s⟩)
        · unfold f_X11_odds
          rw [ckL_y I cL, xb_v, ckI_y I hp c2, xb_v, ckT_n I hp hq, xb_e]
        · have ew : wd x (x_i H (x + 64) 0 (jI 0)) = wd x h := by rw [wm0, eH]
          have e1 := ckL_ry J.m0 (z := (t : Int)) (by rw [ew]; exact cL)
          have e2 := ckI_ry J.m0 (p := p) (i := z3) (by rw [ew]; exact hp) (by rw [ew]; exact c2)
          have e3 := r_isp J.m0 (p := p) (by rw [ew]; exact hp)
          rw [ew, if_neg hq] at e3
          unfold f_X12_odds
          rw [xl_, show x_i H (x + 64) 0 (0 : Int32) = x_i H (x + 64) 0 (jI 0) from rfl, e1, Option.bind_some, if_pos (show jI 0 = (0 : Int32) from rfl), e2, Option.bind_some, if_pos (show jI 0 = (0 : Int32) from rfl), tv_0, Option.bind_some, if_pos (show (0 : Int32) = 0 from rfl), e3, Option.bind_some, if_pos (show jI 0 = (0 : Int32) from rfl), tv_1, Option.bind_some, if_neg (show ¬ (1 : Int32) = 0 by decide)]
          rfl
    · refine rc_q I (res := .inl 0) ⟨h, ?_, Fr.rf⟩ (fun H J eH => ⟨jI 0, x_i (x_i H (x + 64) 0 (jI 0)) (x + 64) 0 (jI 1), ?_, fr_t, rfl, 0, rfl, by decide, gi_s⟩)
      · unfold f_X11_odds
        rw [ckL_y I cL, xb_v, ckI_n I ⟨z2a, z2b⟩ ⟨z3a, z3b⟩ c, xb_e]
      · have ew : wd x (x_i H (x + 64) 0 (jI 0)) = wd x h := by rw [wm0, eH]
        have e1 := ckL_ry J.m0 (z := (t : Int)) (by rw [ew]; exact cL)
        have e2 := ckI_rn J.m0 ⟨z2a, z2b⟩ ⟨z3a, z3b⟩ (by rw [ew]; exact c)
        unfold f_X12_odds
        rw [xl_, show x_i H (x + 64) 0 (0 : Int32) = x_i H (x + 64) 0 (jI 0) from rfl, e1, Option.bind_some, if_pos (show jI 0 = (0 : Int32) from rfl), e2, Option.bind_some, if_neg (show ¬ jI 1 = (0 : Int32) by decide), tv_1, Option.bind_some, if_neg (show ¬ (1 : Int32) = 0 by decide)]
        rfl
  · refine rc_q I (res := .inl 0) ⟨h, ?_, Fr.rf⟩ (fun H J eH => ⟨jI 0, x_i (x_i H (x + 64) 0 (jI 0)) (x + 64) 0 (jI 1), ?_, fr_t, rfl, 0, rfl, by decide, gi_s⟩)
    · unfold f_X11_odds
      rw [ckL_n I ⟨z1a, z1b⟩ cL, xb_e]
    · have ew : wd x (x_i H (x + 64) 0 (jI 0)) = wd x h := by rw [wm0, eH]
      have e1 := ckL_rn J.m0 ⟨z1a, z1b⟩ (by rw [ew]; exact cL)
      unfold f_X12_odds f_X12_odds_23 f_X12_odds_28
      rw [xl_, show x_i H (x + 64) 0 (0 : Int32) = x_i H (x + 64) 0 (jI 0) from rfl, e1, Option.bind_some, if_neg (show ¬ jI 1 = (0 : Int32) by decide), tv_1, Option.bind_some, if_neg (show ¬ (1 : Int32) = 0 by decide)]
      rfl
