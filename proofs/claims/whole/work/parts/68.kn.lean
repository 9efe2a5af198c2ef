/-! ===== how many of a kind ===== -/
def kn_ (w : Nat → Int) (p : Nat) (k : Int) (n : Nat) : Int := sm_ n (fun i => if kd_ w p i = k then 1 else 0)
theorem kn_b {w : Nat → Int} {p n : Nat} {k : Int} : 0 ≤ kn_ w p k n ∧ kn_ w p k n ≤ n := by
  have := sm_b (n := n) (f := fun i => if kd_ w p i = k then (1 : Int) else 0) (lo := 0) (hi := 1) (fun i _ => by split <;> omega)
  unfold kn_
  omega
theorem kd_0 {w : Nat → Int} {p : Nat} {i : Int} : kd_ w p i = 0 ↔ w (290 + 81 * p + 29 + i.toNat) = cd_ w p i := by
  have := kf_b (f := sl_ w p i) (s := w (290 + 81 * p + 29 + i.toNat)) 4 2 (by omega) (by omega)
  unfold kd_
  split
  · rename_i e; exact ⟨fun _ => e, fun _ => rfl⟩
  · rename_i e
    refine ⟨fun q => ?_, fun q => absurd q e⟩
    split at q <;> omega
theorem kd_1 {w : Nat → Int} {p : Nat} {i : Int} : kd_ w p i = 1 ↔ w (290 + 81 * p + 29 + i.toNat) < 0 := by
  have := kf_b (f := sl_ w p i) (s := w (290 + 81 * p + 29 + i.toNat)) 4 2 (by omega) (by omega)
  have cb := cd_b w p i
  unfold kd_
  split
  · omega
  · split <;> omega
theorem c_rgt {gh : Nat} {x : Nat} {K : XK} {h : XH} (I : Inv gh x K h) {p : Nat} (hp : (p : Int) < wd x h 1) : f_X2_rightOnes (x + 13 + 6 + 3 * p) h = some (jI (kn_ (wd x h) p 0 (wd x h (290 + 81 * p + 2)).toNat)) := by
  obtain ⟨-, -, -, -, -, -, p7, p8, -, -, -, -, p13, -⟩ := I.wp hp
  have k3 := (I.pk hp).2.2.1
  refine x_up0 (P := fun m n => f_X2_rightOnes_4 (x + 13 + 6 + 3 * p) h m (jI (kn_ (wd x h) p 0 n)) (jI (n : Int)) = some (jI (kn_ (wd x h) p 0 (wd x h (290 + 81 * p + 2)).toNat))) (wd x h (290 + 81 * p + 2)).toNat (by omega) (fun m => by
    unfold f_X2_rightOnes_4
    rw [k3, if_pos ((jI_le (by omega) (by omega) (by omega) (by omega)).mpr (by omega))]) (fun m n hn ih => by
    have sd : h.1 (x + 13 + 6 + 3 * p + 2) n = jI (wd x h (290 + 81 * p + 29 + n)) := (I.pk hp).2.2.2.2.1 n (by omega)
    have sb := p13 n (by omega)
    have cb := cd_b (wd x h) p n
    have a1 : jI (n : Int) + 1 = jI ((n + 1 : Nat) : Int) := by
      rw [show (1 : Int32) = jI 1 from rfl, jI_add]
      rfl
    have k0 := kd_0 (w := wd x h) (p := p) (i := (n : Int))
    rw [Int.toNat_natCast] at k0
    unfold f_X2_rightOnes_4
    rw [k3, if_neg (fun e => absurd ((jI_le (by omega) (by omega) (by omega) (by omega)).mp e) (by omega)), if_pos (jI_b (by omega) (by omega) (by omega)), xl_, nat_ (by omega), sd, c_card I hp (by omega), a1]
    have e : jI (kn_ (wd x h) p 0 n) + (if jI (wd x h (290 + 81 * p + 29 + n)) = jI (cd_ (wd x h) p n) then (1 : Int32) else 0) = jI (kn_ (wd x h) p 0 (n + 1)) := by
      unfold kn_
      rw [sm_s, ← jI_add]
      congr 1
      by_cases c : wd x h (290 + 81 * p + 29 + n) = cd_ (wd x h) p n
      · rw [if_pos (by rw [c]), if_pos (k0.mpr c)]; rfl
      · rw [if_neg (fun e => c ((jI_eq (by omega) (by omega) (by omega) (by omega)).mp e)), if_neg (fun e => c (k0.mp e))]; rfl
    rw [e]
    exact ih)
theorem c_blk {gh : Nat} {x : Nat} {K : XK} {h : XH} (I : Inv gh x K h) {p : Nat} (hp : (p : Int) < wd x h 1) : f_X2_blanks (x + 13 + 6 + 3 * p) h = some (jI (kn_ (wd x h) p 1 (wd x h (290 + 81 * p + 2)).toNat)) := by
  obtain ⟨-, -, -, -, -, -, p7, p8, -, -, -, -, p13, -⟩ := I.wp hp
  have k3 := (I.pk hp).2.2.1
  refine x_up0 (P := fun m n => f_X2_blanks_4 (x + 13 + 6 + 3 * p) h m (jI (kn_ (wd x h) p 1 n)) (jI (n : Int)) = some (jI (kn_ (wd x h) p 1 (wd x h (290 + 81 * p + 2)).toNat))) (wd x h (290 + 81 * p + 2)).toNat (by omega) (fun m => by
    unfold f_X2_blanks_4
    rw [k3, if_pos ((jI_le (by omega) (by omega) (by omega) (by omega)).mpr (by omega))]) (fun m n hn ih => by
    have sd : h.1 (x + 13 + 6 + 3 * p + 2) n = jI (wd x h (290 + 81 * p + 29 + n)) := (I.pk hp).2.2.2.2.1 n (by omega)
    have sb := p13 n (by omega)
    have a1 : jI (n : Int) + 1 = jI ((n + 1 : Nat) : Int) := by
      rw [show (1 : Int32) = jI 1 from rfl, jI_add]
      rfl
    have k1 := kd_1 (w := wd x h) (p := p) (i := (n : Int))
    rw [Int.toNat_natCast] at k1
    unfold f_X2_blanks_4
    rw [k3, if_neg (fun e => absurd ((jI_le (by omega) (by omega) (by omega) (by omega)).mp e) (by omega)), if_pos (jI_b (by omega) (by omega) (by omega)), xl_, nat_ (by omega), sd, a1]
    have e : jI (kn_ (wd x h) p 1 n) + (if jI (wd x h (290 + 81 * p + 29 + n)) = (-1 : Int32) then (1 : Int32) else 0) = jI (kn_ (wd x h) p 1 (n + 1)) := by
      unfold kn_
      rw [sm_s, ← jI_add]
      congr 1
      by_cases c : wd x h (290 + 81 * p + 29 + n) < 0
      · rw [if_pos ((jm1 (by omega) (by omega)).mpr (by omega)), if_pos (k1.mpr c)]; rfl
      · rw [if_neg (fun e => absurd ((jm1 (by omega) (by omega)).mp e) (by omega)), if_neg (fun e => c (k1.mp e))]; rfl
    rw [e]
    exact ih)
theorem r_kns {gh : Nat} {x : Nat} {K : XK} {h : XH} (I : Inv gh x K h) {p : Nat} (hp : (p : Int) < wd x h 1) (hq : 0 < wd x h (290 + 81 * p + 3)) {k : Int} (hk : 0 ≤ k ∧ k ≤ 6) : f_X12_kindsOf x h (jI p) (jI k) = some (jI (kn_ (wd x h) p k (wd x h (290 + 81 * p + 2)).toNat)) := by
  have w1 := I.w1
  obtain ⟨-, -, -, -, -, -, p7, p8, -⟩ := I.wp hp
  have o2 : f_X12_of x h (jI p) 2 = some (jI (wd x h (290 + 81 * p + 2))) := of_2 (by omega)
  refine x_up0 (P := fun m n => f_X12_kindsOf_5 x h m (jI p) (jI k) (jI (kn_ (wd x h) p k n)) (jI (n : Int)) = some (jI (kn_ (wd x h) p k (wd x h (290 + 81 * p + 2)).toNat))) (wd x h (290 + 81 * p + 2)).toNat (by omega) (fun m => by
    unfold f_X12_kindsOf_5
    rw [o2, Option.bind_some, if_pos ((jI_le (by omega) (by omega) (by omega) (by omega)).mpr (by omega))]) (fun m n hn ih => by
    have a1 : jI (n : Int) + 1 = jI ((n + 1 : Nat) : Int) := by
      rw [show (1 : Int32) = jI 1 from rfl, jI_add]
      rfl
    have kb := kd_b (w := wd x h) (p := p) (i := (n : Int))
    unfold f_X12_kindsOf_5
    rw [o2, Option.bind_some, if_neg (fun e => absurd ((jI_le (by omega) (by omega) (by omega) (by omega)).mp e) (by omega)), r_kind I hp hq (by omega), Option.bind_some, xl_, a1]
    have e : jI (kn_ (wd x h) p k n) + (if jI (kd_ (wd x h) p n) = jI k then (1 : Int32) else 0) = jI (kn_ (wd x h) p k (n + 1)) := by
      unfold kn_
      rw [sm_s, ← jI_add]
      congr 1
      by_cases c : kd_ (wd x h) p n = k
      · rw [if_pos (by rw [c]), if_pos c]; rfl
      · rw [if_neg (fun e => c ((jI_eq (by omega) (by omega) (by omega) (by omega)).mp e)), if_neg c]; rfl
    rw [e]
    exact ih)
theorem c_kns {gh : Nat} {x : Nat} {K : XK} {h : XH} (I : Inv gh x K h) {p : Nat} (hp : (p : Int) < wd x h 1) (hq : 0 < wd x h (290 + 81 * p + 3)) {k : Int} (hk : 0 ≤ k ∧ k ≤ 6) : ∃ h2, f_X11_kinds_31 x x_FU h (jI p) (jI k) (jI 0) (jI 0) = some (.inr (jI (kn_ (wd x h) p k (wd x h (290 + 81 * p + 2)).toNat)), h2) ∧ (∀ a, a ≠ x + 50 → h2.1 a = h.1 a) ∧ h2.2 = h.2 := by
  have w1 := I.w1
  obtain ⟨-, -, -, -, -, -, p7, p8, -⟩ := I.wp hp
  have k3 := (I.pk hp).2.2.1
  have key := x_up0 (P := fun m n => ∀ h1 : XH, (∀ a, a ≠ x + 50 → h1.1 a = h.1 a) → h1.2 = h.2 → ∃ h2, f_X11_kinds_31 x m h1 (jI p) (jI k) (jI (kn_ (wd x h) p k n)) (jI (n : Int)) = some (.inr (jI (kn_ (wd x h) p k (wd x h (290 + 81 * p + 2)).toNat)), h2) ∧ (∀ a, a ≠ x + 50 → h2.1 a = h.1 a) ∧ h2.2 = h.2) (wd x h (290 + 81 * p + 2)).toNat (by omega) (fun m h1 f1 f2 => by
    refine ⟨h1, ?_, f1, f2⟩
    unfold f_X11_kinds_31
    rw [if_pos (jI_b (by omega) (by omega) (by omega)), nat_ (by omega), f1 _ (by omega), k3, if_pos ((jI_le (by omega) (by omega) (by omega) (by omega)).mpr (by omega))]) (fun m n hn ih => by
    intro h1 f1 f2
    have F : Fr x h h1 := Fr.o1 f1 f2 (by decide)
    have ck := c_kind (I.fr F) (p := p) (by rw [F.ew]; exact hp) (by rw [F.ew]; exact hq) (i := (n : Int)) (by rw [F.ew]; omega)
    rw [F.ew] at ck
    obtain ⟨h3, g1, g2, g3⟩ := ck
    obtain ⟨h2, q1, q2, q3⟩ := ih h3 (fun a ha => by rw [g2 a ha, f1 a ha]) (by rw [g3, f2])
    refine ⟨h2, ?_, q2, q3⟩
    have a1 : jI (n : Int) + 1 = jI ((n + 1 : Nat) : Int) := by
      rw [show (1 : Int32) = jI 1 from rfl, jI_add]
      rfl
    have kb := kd_b (w := wd x h) (p := p) (i := (n : Int))
    unfold f_X11_kinds_31
    rw [if_pos (jI_b (by omega) (by omega) (by omega)), nat_ (by omega), f1 _ (by omega), k3, if_neg (fun e => absurd ((jI_le (by omega) (by omega) (by omega) (by omega)).mp e) (by omega)), g1, Option.bind_some, a1]
    have e : (if jI (kd_ (wd x h) p n) = jI k then jI (kn_ (wd x h) p k n) + 1 else jI (kn_ (wd x h) p k n)) = jI (kn_ (wd x h) p k (n + 1)) := by
      unfold kn_
      rw [sm_s]
      by_cases c : kd_ (wd x h) p n = k
      · rw [if_pos (by rw [c]), if_pos c, ← jI_add]; rfl
      · rw [if_neg (fun e => c ((jI_eq (by omega) (by omega) (by omega) (by omega)).mp e)), if_neg c, Int.add_zero]
    rw [e]
    exact q1)
  exact key h (fun _ _ => rfl) rfl
/-- kind -/
theorem P_row17 {gh : Nat} {x : Nat} {K : XK} {h : XH} (I : Inv gh x K h) (a1 a2 : Int32) : ∃ h', f_row17 x h a1 a2 = some h' ∧ Inv gh x K h' := by
  obtain ⟨z1, z1a, z1b, rfl⟩ := jI_ex a1
  obtain ⟨z2, z2a, z2b, rfl⟩ := jI_ex a2
  have e0 : ∀ b1 b2, f_row17 x h b1 b2 = rc_ x (x_lb (f_X11_kind x h b1 b2) [0, 2] (fun v h => x_l h (x + 76) (0 : Int32).toNatClampNeg v.toInt64)) (fun h => f_X12_kind x h b1 b2) := fun _ _ => rfl
  rw [e0]
  have h1 := I.w1
  by_cases c : (0 ≤ z1 ∧ z1 < wd x h 1) ∧ 0 ≤ z2 ∧ z2 < wd x h (290 + 81 * z1.toNat + 2)
  · obtain ⟨c1, c2⟩ := c
    obtain ⟨p, rfl⟩ : ∃ p : Nat, z1 = p := ⟨z1.toNat, by omega⟩
    rw [Int.toNat_natCast] at c2
    have hp := c1.2
    by_cases hq : 0 < wd x h (290 + 81 * p + 3)
    · obtain ⟨hh, g1, g2, g3⟩ := c_kind I hp hq c2
      refine rc_q I (res := .inr (jI (kd_ (wd x h) p z2))) ⟨hh, ?_, Fr.o1 g2 g3 (by decide)⟩ (fun H J eH => ?_)
      · simp (disch := omega) only [f_X11_kind, ckI_y I hp c2, ckT_y I hp hq, jL, jJ, jI_lt, jI_le, jI_eq, jI_nat, jBt, jBo, gi_, gl_, x_let, if_pos, if_neg, if_true, Option.bind_some, tvz, tvo, wd_j, and_self, true_and, and_true, Int.toNat_zero, Int.toNat_natCast, xb_v, xb_e, isb0, isb1, gil, gl2, wd_i, wd_l, g1]
      · have ew : wd x (x_i H (x + 64) 0 (jI 0)) = wd x h := by rw [wm0, eH]
        have e2 := ckI_ry J.m0 (p := p) (i := z2) (by rw [ew]; exact hp) (by rw [ew]; exact c2)
        have e3 := r_isp J.m0 (p := p) (by rw [ew]; exact hp)
        rw [ew, if_pos hq] at e3
        have rn := r_kind J.m0 (p := p) (by rw [ew]; exact hp) (by rw [ew]; exact hq) (i := z2) (by rw [ew]; exact c2)
        rw [ew] at rn
        refine ⟨_, x_i H (x + 64) 0 (jI 0), ?_, fr_0, rfl, gi_s, rfl⟩
        simp (disch := omega) only [f_X12_kind, f_X12_kind_40, jL, jJ, jI_lt, jI_le, jI_eq, jI_nat, jBt, jBo, gi_, gl_, x_let, if_pos, if_neg, if_true, Option.bind_some, tvz, tvo, wd_j, and_self, true_and, and_true, Int.toNat_zero, Int.toNat_natCast, xb_v, xb_e, isb0, isb1, gil, gl2, wd_i, wd_l, e2, e3, rn]
    · refine rc_q I (res := .inl 2) ⟨h, ?_, Fr.rf⟩ (fun H J eH => ⟨jI 0, x_i (x_i H (x + 64) 0 (jI 0)) (x + 64) 0 (jI 2), ?_, fr_t, rfl, 1, rfl, by decide, gi_s⟩)
      · simp (disch := omega) only [f_X11_kind, ckI_y I hp c2, ckT_n I hp hq, jL, jJ, jI_lt, jI_le, jI_eq, jI_nat, jBt, jBo, gi_, gl_, x_let, if_pos, if_neg, if_true, Option.bind_some, tvz, tvo, wd_j, and_self, true_and, and_true, Int.toNat_zero, Int.toNat_natCast, xb_v, xb_e, isb0, isb1, gil, gl2, wd_i, wd_l]
      · have ew : wd x (x_i H (x + 64) 0 (jI 0)) = wd x h := by rw [wm0, eH]
        have e2 := ckI_ry J.m0 (p := p) (i := z2) (by rw [ew]; exact hp) (by rw [ew]; exact c2)
        have e3 := r_isp J.m0 (p := p) (by rw [ew]; exact hp)
        rw [ew, if_neg hq] at e3
        simp (disch := omega) only [f_X12_kind, f_X12_kind_40, jL, jJ, jI_lt, jI_le, jI_eq, jI_nat, jBt, jBo, gi_, gl_, x_let, if_pos, if_neg, if_true, Option.bind_some, tvz, tvo, wd_j, and_self, true_and, and_true, Int.toNat_zero, Int.toNat_natCast, xb_v, xb_e, isb0, isb1, gil, gl2, wd_i, wd_l, e2, e3]
  · refine rc_q I (res := .inl 0) ⟨h, ?_, Fr.rf⟩ (fun H J eH => ⟨jI 0, x_i (x_i H (x + 64) 0 (jI 0)) (x + 64) 0 (jI 1), ?_, fr_t, rfl, 0, rfl, by decide, gi_s⟩)
    · simp (disch := omega) only [f_X11_kind, ckI_n I ⟨z1a, z1b⟩ ⟨z2a, z2b⟩ c, jL, jJ, jI_lt, jI_le, jI_eq, jI_nat, jBt, jBo, gi_, gl_, x_let, if_pos, if_neg, if_true, Option.bind_some, tvz, tvo, wd_j, and_self, true_and, and_true, Int.toNat_zero, Int.toNat_natCast, xb_v, xb_e, isb0, isb1, gil, gl2, wd_i, wd_l]
    · have ew : wd x (x_i H (x + 64) 0 (jI 0)) = wd x h := by rw [wm0, eH]
      have e2 := ckI_rn J.m0 ⟨z1a, z1b⟩ ⟨z2a, z2b⟩ (by rw [ew]; exact c)
      simp (disch := omega) only [f_X12_kind, f_X12_kind_40, jL, jJ, jI_lt, jI_le, jI_eq, jI_nat, jBt, jBo, gi_, gl_, x_let, if_pos, if_neg, if_true, Option.bind_some, tvz, tvo, wd_j, and_self, true_and, and_true, Int.toNat_zero, Int.toNat_natCast, xb_v, xb_e, isb0, isb1, gil, gl2, wd_i, wd_l, e2]
/-- kinds -/
theorem P_row20 {gh : Nat} {x : Nat} {K : XK} {h : XH} (I : Inv gh x K h) (a1 a2 : Int32) : ∃ h', f_row20 x h a1 a2 = some h' ∧ Inv gh x K h' := by
  obtain ⟨z1, z1a, z1b, rfl⟩ := jI_ex a1
  obtain ⟨z2, z2a, z2b, rfl⟩ := jI_ex a2
  have e0 : ∀ b1 b2, f_row20 x h b1 b2 = rc_ x (x_lb (f_X11_kinds x h b1 b2) [0, 2, 1] (fun v h => x_l h (x + 76) (0 : Int32).toNatClampNeg v.toInt64)) (fun h => f_X12_kinds x h b1 b2) := fun _ _ => rfl
  rw [e0]
  have h1 := I.w1
  by_cases c : 0 ≤ z1 ∧ z1 < wd x h 1
  · obtain ⟨p, rfl⟩ : ∃ p : Nat, z1 = p := ⟨z1.toNat, by omega⟩
    have hp := c.2
    by_cases hq : 0 < wd x h (290 + 81 * p + 3)
    · by_cases c2 : 0 ≤ z2 ∧ z2 ≤ 6
      · obtain ⟨hh, g1, g2, g3⟩ := c_kns I hp hq c2
        refine rc_q I (res := .inr (jI (kn_ (wd x h) p z2 (wd x h (290 + 81 * p + 2)).toNat))) ⟨hh, ?_, Fr.o1 g2 g3 (by decide)⟩ (fun H J eH => ?_)
        · simp (disch := omega) only [f_X11_kinds, f_X11_kinds_15, ckT_y I hp hq, jL, jJ, jI_lt, jI_le, jI_eq, jI_nat, jBt, jBo, gi_, gl_, x_let, if_pos, if_neg, if_true, Option.bind_some, tvz, tvo, wd_j, and_self, true_and, and_true, Int.toNat_zero, Int.toNat_natCast, xb_v, xb_e, isb0, isb1, gil, gl2, wd_i, wd_l, g1]
        · have ew : wd x (x_i H (x + 64) 0 (jI 0)) = wd x h := by rw [wm0, eH]
          have e2 := ckP_ry J.m0 (z := (p : Int)) (by rw [ew]; exact c)
          have e3 := r_isp J.m0 (p := p) (by rw [ew]; exact hp)
          rw [ew, if_pos hq] at e3
          have rn := r_kns J.m0 (p := p) (by rw [ew]; exact hp) (by rw [ew]; exact hq) c2
          rw [ew] at rn
          refine ⟨_, x_i H (x + 64) 0 (jI 0), ?_, fr_0, rfl, gi_s, rfl⟩
          simp (disch := omega) only [f_X12_kinds, f_X12_kinds_62, f_X12_in, jL, jJ, jI_lt, jI_le, jI_eq, jI_nat, jBt, jBo, gi_, gl_, x_let, if_pos, if_neg, if_true, Option.bind_some, tvz, tvo, wd_j, and_self, true_and, and_true, Int.toNat_zero, Int.toNat_natCast, xb_v, xb_e, isb0, isb1, gil, gl2, wd_i, wd_l, e2, e3, rn]
      · refine rc_q I (res := .inl 1) ⟨h, ?_, Fr.rf⟩ (fun H J eH => ⟨jI 0, x_i (x_i H (x + 64) 0 (jI 0)) (x + 64) 0 (jI 3), ?_, fr_t, rfl, 2, rfl, by decide, gi_s⟩)
        · by_cases c4 : z2 < 0
          · simp (disch := omega) only [f_X11_kinds, f_X11_kinds_15, ckT_y I hp hq, jL, jJ, jI_lt, jI_le, jI_eq, jI_nat, jBt, jBo, gi_, gl_, x_let, if_pos, if_neg, if_true, Option.bind_some, tvz, tvo, wd_j, and_self, true_and, and_true, Int.toNat_zero, Int.toNat_natCast, xb_v, xb_e, isb0, isb1, gil, gl2, wd_i, wd_l]
          · simp (disch := omega) only [f_X11_kinds, f_X11_kinds_15, ckT_y I hp hq, jL, jJ, jI_lt, jI_le, jI_eq, jI_nat, jBt, jBo, gi_, gl_, x_let, if_pos, if_neg, if_true, Option.bind_some, tvz, tvo, wd_j, and_self, true_and, and_true, Int.toNat_zero, Int.toNat_natCast, xb_v, xb_e, isb0, isb1, gil, gl2, wd_i, wd_l]
        · have ew : wd x (x_i H (x + 64) 0 (jI 0)) = wd x h := by rw [wm0, eH]
          have e2 := ckP_ry J.m0 (z := (p : Int)) (by rw [ew]; exact c)
          have e3 := r_isp J.m0 (p := p) (by rw [ew]; exact hp)
          rw [ew, if_pos hq] at e3
          by_cases c4 : z2 < 0
          · simp (disch := omega) only [f_X12_kinds, f_X12_kinds_62, f_X12_in, jL, jJ, jI_lt, jI_le, jI_eq, jI_nat, jBt, jBo, gi_, gl_, x_let, if_pos, if_neg, if_true, Option.bind_some, tvz, tvo, wd_j, and_self, true_and, and_true, Int.toNat_zero, Int.toNat_natCast, xb_v, xb_e, isb0, isb1, gil, gl2, wd_i, wd_l, e2, e3]
          · simp (disch := omega) only [f_X12_kinds, f_X12_kinds_62, f_X12_in, jL, jJ, jI_lt, jI_le, jI_eq, jI_nat, jBt, jBo, gi_, gl_, x_let, if_pos, if_neg, if_true, Option.bind_some, tvz, tvo, wd_j, and_self, true_and, and_true, Int.toNat_zero, Int.toNat_natCast, xb_v, xb_e, isb0, isb1, gil, gl2, wd_i, wd_l, e2, e3]
    · refine rc_q I (res := .inl 2) ⟨h, ?_, Fr.rf⟩ (fun H J eH => ⟨jI 0, x_i (x_i H (x + 64) 0 (jI 0)) (x + 64) 0 (jI 2), ?_, fr_t, rfl, 1, rfl, by decide, gi_s⟩)
      · simp (disch := omega) only [f_X11_kinds, f_X11_kinds_15, ckT_n I hp hq, jL, jJ, jI_lt, jI_le, jI_eq, jI_nat, jBt, jBo, gi_, gl_, x_let, if_pos, if_neg, if_true, Option.bind_some, tvz, tvo, wd_j, and_self, true_and, and_true, Int.toNat_zero, Int.toNat_natCast, xb_v, xb_e, isb0, isb1, gil, gl2, wd_i, wd_l]
      · have ew : wd x (x_i H (x + 64) 0 (jI 0)) = wd x h := by rw [wm0, eH]
        have e2 := ckP_ry J.m0 (z := (p : Int)) (by rw [ew]; exact c)
        have e3 := r_isp J.m0 (p := p) (by rw [ew]; exact hp)
        rw [ew, if_neg hq] at e3
        simp (disch := omega) only [f_X12_kinds, f_X12_kinds_62, f_X12_in, jL, jJ, jI_lt, jI_le, jI_eq, jI_nat, jBt, jBo, gi_, gl_, x_let, if_pos, if_neg, if_true, Option.bind_some, tvz, tvo, wd_j, and_self, true_and, and_true, Int.toNat_zero, Int.toNat_natCast, xb_v, xb_e, isb0, isb1, gil, gl2, wd_i, wd_l, e2, e3]
  · refine rc_q I (res := .inl 0) ⟨h, ?_, Fr.rf⟩ (fun H J eH => ⟨jI 0, x_i (x_i H (x + 64) 0 (jI 0)) (x + 64) 0 (jI 1), ?_, fr_t, rfl, 0, rfl, by decide, gi_s⟩)
    · simp (disch := omega) only [f_X11_kinds, f_X11_kinds_15, ckT_e I ⟨z1a, z1b⟩ c, jL, jJ, jI_lt, jI_le, jI_eq, jI_nat, jBt, jBo, gi_, gl_, x_let, if_pos, if_neg, if_true, Option.bind_some, tvz, tvo, wd_j, and_self, true_and, and_true, Int.toNat_zero, Int.toNat_natCast, xb_v, xb_e, isb0, isb1, gil, gl2, wd_i, wd_l]
    · have ew : wd x (x_i H (x + 64) 0 (jI 0)) = wd x h := by rw [wm0, eH]
      have e2 := ckP_rn J.m0 ⟨z1a, z1b⟩ (by rw [ew]; exact c)
      simp (disch := omega) only [f_X12_kinds, f_X12_kinds_62, f_X12_in, jL, jJ, jI_lt, jI_le, jI_eq, jI_nat, jBt, jBo, gi_, gl_, x_let, if_pos, if_neg, if_true, Option.bind_some, tvz, tvo, wd_j, and_self, true_and, and_true, Int.toNat_zero, Int.toNat_natCast, xb_v, xb_e, isb0, isb1, gil, gl2, wd_i, wd_l, e2]
