/-! ===== go ===== -/
/-- what the heap holds when a pack was gone through -/
theorem Inv.go {gh : Nat} {x : Nat} {K : XK} {h : XH} (I : Inv gh x K h) {p : Nat} {c s g P : Int} {u : Nat} {V : Int64} (hp : (p : Int) < wd x h 1) (hq : 0 < wd x h (290 + 81 * p + 3)) (hc : wd x h 6 = c) (hg : wd x h (290 + 81 * p + 8) = g) (hP : pl_ (wd x h (290 + 81 * p + 2)) (wd x h (290 + 81 * p + 6)) = P) (hs : 1 ≤ s ∧ s ≤ 60) (hm : c + P * s ≤ 1000000) (hgh : gh + 1 ≤ 1000) :
    Inv (gh + 1) x K (x_i (x_i (wr_ (x + 65) (290 + 81 * p + 9) (fun k => c + k * s) P.toNat (x_i (x_l (x_i (x_i (x_i (x_i h (x + 13 + 6 + 3 * p + 1) 5 (jI c)) (x + 13 + 6 + 3 * p + 1) 6 (jI s)) (x + 13 + 6 + 3 * p + 1) 4 (jI (g + 1))) (x + 9) 7 (jI (c + P * s))) (x + 76) u V) (x + 64) 0 (jI 0))) (x + 65) 6 (jI (c + P * s))) (x + 65) (290 + 81 * p + 8) (jI (g + 1))) := by
  obtain ⟨⟨w1, w2, w3, w4, w5, w6, w7, w8, w9, w10, w11, w12, w13, w14, w15, w16⟩, -⟩ := id I.1
  obtain ⟨⟨e1, e4, e6, e7, e8, e10, e12, e15⟩, -⟩ := id I.2.1
  obtain ⟨p1, p2, p3, p4, p5, p6, p7, p8, p9, p10, p11, p12, p13, p14⟩ := I.wp hp
  obtain ⟨q1, q2, q3, q4, q5, q6, q7, q8, q9⟩ := p14 hq
  obtain ⟨k1, k2, k3, k4, k5, k6⟩ := I.pk hp
  obtain ⟨l1, l2, l3, l4, l5, l6, -⟩ := k6 hq
  have hb := pl_b p7 p8 p11 p12
  have h20 := I.dr ⟨q1, q2⟩
  rw [hP] at hb q4
  rw [hc] at w13 w14 q8
  rw [hg] at q7 q8
  have hps : 1 * 1 ≤ P * s := Int.mul_le_mul hb.1 hs.1 (by omega) (by omega)
  have hks : ∀ k : Nat, (k : Int) < P → 0 ≤ (k : Int) * s ∧ (k : Int) * s ≤ P * s := fun k hk => ⟨Int.mul_nonneg (by omega) (by omega), Int.mul_le_mul_of_nonneg_right (by omega) (by omega)⟩
  have v8 : wd x (x_i (x_i (wr_ (x + 65) (290 + 81 * p + 9) (fun k => c + k * s) P.toNat (x_i (x_l (x_i (x_i (x_i (x_i h (x + 13 + 6 + 3 * p + 1) 5 (jI c)) (x + 13 + 6 + 3 * p + 1) 6 (jI s)) (x + 13 + 6 + 3 * p + 1) 4 (jI (g + 1))) (x + 9) 7 (jI (c + P * s))) (x + 76) u V) (x + 64) 0 (jI 0))) (x + 65) 6 (jI (c + P * s))) (x + 65) (290 + 81 * p + 8) (jI (g + 1))) (290 + 81 * p + 8) = g + 1 := by rw [wd_s _ (by omega) (by omega), if_pos rfl]
  have v6 : wd x (x_i (x_i (wr_ (x + 65) (290 + 81 * p + 9) (fun k => c + k * s) P.toNat (x_i (x_l (x_i (x_i (x_i (x_i h (x + 13 + 6 + 3 * p + 1) 5 (jI c)) (x + 13 + 6 + 3 * p + 1) 6 (jI s)) (x + 13 + 6 + 3 * p + 1) 4 (jI (g + 1))) (x + 9) 7 (jI (c + P * s))) (x + 76) u V) (x + 64) 0 (jI 0))) (x + 65) 6 (jI (c + P * s))) (x + 65) (290 + 81 * p + 8) (jI (g + 1))) 6 = c + P * s := by rw [wd_s _ (by omega) (by omega), if_neg (by omega), wd_s _ (by omega) (by omega), if_pos rfl]
  have v9 : ∀ k : Nat, (k : Int) < P → wd x (x_i (x_i (wr_ (x + 65) (290 + 81 * p + 9) (fun k => c + k * s) P.toNat (x_i (x_l (x_i (x_i (x_i (x_i h (x + 13 + 6 + 3 * p + 1) 5 (jI c)) (x + 13 + 6 + 3 * p + 1) 6 (jI s)) (x + 13 + 6 + 3 * p + 1) 4 (jI (g + 1))) (x + 9) 7 (jI (c + P * s))) (x + 76) u V) (x + 64) 0 (jI 0))) (x + 65) 6 (jI (c + P * s))) (x + 65) (290 + 81 * p + 8) (jI (g + 1))) (290 + 81 * p + 9 + k) = c + k * s := fun k hk => by
    have := hks k hk
    rw [wd_s _ (by omega) (by omega), if_neg (by omega), wd_s _ (by omega) (by omega), if_neg (by omega), wd_wi k (by omega) ⟨by omega, by omega⟩]
  have vo : ∀ k : Nat, k ≠ 6 → k ≠ 290 + 81 * p + 8 → k < 290 + 81 * p + 9 ∨ 290 + 81 * p + 9 + 20 ≤ k → wd x (x_i (x_i (wr_ (x + 65) (290 + 81 * p + 9) (fun k => c + k * s) P.toNat (x_i (x_l (x_i (x_i (x_i (x_i h (x + 13 + 6 + 3 * p + 1) 5 (jI c)) (x + 13 + 6 + 3 * p + 1) 6 (jI s)) (x + 13 + 6 + 3 * p + 1) 4 (jI (g + 1))) (x + 9) 7 (jI (c + P * s))) (x + 76) u V) (x + 64) 0 (jI 0))) (x + 65) 6 (jI (c + P * s))) (x + 65) (290 + 81 * p + 8) (jI (g + 1))) k = wd x h k := fun k h1 h2 h3 => by
    rw [wd_s _ (by omega) (by omega), if_neg h2, wd_s _ (by omega) (by omega), if_neg h1, wd_wo _ (by omega), wd_i _ (by omega), wd_l, wd_i _ (by omega), wd_i _ (by omega), wd_i _ (by omega), wd_i _ (by omega)]
  have gn : ∀ a, a ≠ x + 64 → a ≠ x + 65 → (x_i (x_i (wr_ (x + 65) (290 + 81 * p + 9) (fun k => c + k * s) P.toNat (x_i (x_l (x_i (x_i (x_i (x_i h (x + 13 + 6 + 3 * p + 1) 5 (jI c)) (x + 13 + 6 + 3 * p + 1) 6 (jI s)) (x + 13 + 6 + 3 * p + 1) 4 (jI (g + 1))) (x + 9) 7 (jI (c + P * s))) (x + 76) u V) (x + 64) 0 (jI 0))) (x + 65) 6 (jI (c + P * s))) (x + 65) (290 + 81 * p + 8) (jI (g + 1))).1 a = (x_i (x_i (x_i (x_i h (x + 13 + 6 + 3 * p + 1) 5 (jI c)) (x + 13 + 6 + 3 * p + 1) 6 (jI s)) (x + 13 + 6 + 3 * p + 1) 4 (jI (g + 1))) (x + 9) 7 (jI (c + P * s))).1 a := fun a h1 h2 => by
    rw [gi_n h2, gi_n h2, wr_n h2, gi_n h1, gl_]
  have g1 : (x_i (x_i (wr_ (x + 65) (290 + 81 * p + 9) (fun k => c + k * s) P.toNat (x_i (x_l (x_i (x_i (x_i (x_i h (x + 13 + 6 + 3 * p + 1) 5 (jI c)) (x + 13 + 6 + 3 * p + 1) 6 (jI s)) (x + 13 + 6 + 3 * p + 1) 4 (jI (g + 1))) (x + 9) 7 (jI (c + P * s))) (x + 76) u V) (x + 64) 0 (jI 0))) (x + 65) 6 (jI (c + P * s))) (x + 65) (290 + 81 * p + 8) (jI (g + 1))).1 (x + 13 + 6 + 3 * p + 1) = (x_i (x_i (x_i (x_i h (x + 13 + 6 + 3 * p + 1) 5 (jI c)) (x + 13 + 6 + 3 * p + 1) 6 (jI s)) (x + 13 + 6 + 3 * p + 1) 4 (jI (g + 1))) (x + 9) 7 (jI (c + P * s))).1 (x + 13 + 6 + 3 * p + 1) := gn _ (by omega) (by omega)
  have g9 : (x_i (x_i (wr_ (x + 65) (290 + 81 * p + 9) (fun k => c + k * s) P.toNat (x_i (x_l (x_i (x_i (x_i (x_i h (x + 13 + 6 + 3 * p + 1) 5 (jI c)) (x + 13 + 6 + 3 * p + 1) 6 (jI s)) (x + 13 + 6 + 3 * p + 1) 4 (jI (g + 1))) (x + 9) 7 (jI (c + P * s))) (x + 76) u V) (x + 64) 0 (jI 0))) (x + 65) 6 (jI (c + P * s))) (x + 65) (290 + 81 * p + 8) (jI (g + 1))).1 (x + 9) = (x_i (x_i (x_i (x_i h (x + 13 + 6 + 3 * p + 1) 5 (jI c)) (x + 13 + 6 + 3 * p + 1) 6 (jI s)) (x + 13 + 6 + 3 * p + 1) 4 (jI (g + 1))) (x + 9) 7 (jI (c + P * s))).1 (x + 9) := gn _ (by omega) (by omega)
  have go : ∀ a, a ≠ x + 9 → a ≠ (x + 13 + 6 + 3 * p + 1) → a ≠ x + 64 → a ≠ x + 65 → (x_i (x_i (wr_ (x + 65) (290 + 81 * p + 9) (fun k => c + k * s) P.toNat (x_i (x_l (x_i (x_i (x_i (x_i h (x + 13 + 6 + 3 * p + 1) 5 (jI c)) (x + 13 + 6 + 3 * p + 1) 6 (jI s)) (x + 13 + 6 + 3 * p + 1) 4 (jI (g + 1))) (x + 9) 7 (jI (c + P * s))) (x + 76) u V) (x + 64) 0 (jI 0))) (x + 65) 6 (jI (c + P * s))) (x + 65) (290 + 81 * p + 8) (jI (g + 1))).1 a = h.1 a := fun a h1 h2 h3 h4 => by
    rw [gn a h3 h4, gi_n h1, gi_n h2, gi_n h2, gi_n h2]
  have m64 : ∀ j, j ≠ 0 → (x_i (x_i (wr_ (x + 65) (290 + 81 * p + 9) (fun k => c + k * s) P.toNat (x_i (x_l (x_i (x_i (x_i (x_i h (x + 13 + 6 + 3 * p + 1) 5 (jI c)) (x + 13 + 6 + 3 * p + 1) 6 (jI s)) (x + 13 + 6 + 3 * p + 1) 4 (jI (g + 1))) (x + 9) 7 (jI (c + P * s))) (x + 76) u V) (x + 64) 0 (jI 0))) (x + 65) 6 (jI (c + P * s))) (x + 65) (290 + 81 * p + 8) (jI (g + 1))).1 (x + 64) j = h.1 (x + 64) j := fun j hj => by
    rw [gi_n (by omega), gi_n (by omega), wr_n (by omega), gi_k hj, gl_, gi_n (by omega), gi_n (by omega), gi_n (by omega), gi_n (by omega)]
  have r : (x_i (x_i (wr_ (x + 65) (290 + 81 * p + 9) (fun k => c + k * s) P.toNat (x_i (x_l (x_i (x_i (x_i (x_i h (x + 13 + 6 + 3 * p + 1) 5 (jI c)) (x + 13 + 6 + 3 * p + 1) 6 (jI s)) (x + 13 + 6 + 3 * p + 1) 4 (jI (g + 1))) (x + 9) 7 (jI (c + P * s))) (x + 76) u V) (x + 64) 0 (jI 0))) (x + 65) 6 (jI (c + P * s))) (x + 65) (290 + 81 * p + 8) (jI (g + 1))).2.2 = h.2.2 := by rw [gir, gir, wr_2, gir, glr, gir, gir, gir, gir]
  generalize (x_i (x_i (wr_ (x + 65) (290 + 81 * p + 9) (fun k => c + k * s) P.toNat (x_i (x_l (x_i (x_i (x_i (x_i h (x + 13 + 6 + 3 * p + 1) 5 (jI c)) (x + 13 + 6 + 3 * p + 1) 6 (jI s)) (x + 13 + 6 + 3 * p + 1) 4 (jI (g + 1))) (x + 9) 7 (jI (c + P * s))) (x + 76) u V) (x + 64) 0 (jI 0))) (x + 65) 6 (jI (c + P * s))) (x + 65) (290 + 81 * p + 8) (jI (g + 1))) = h' at v8 v6 v9 vo gn g1 g9 go m64 r ⊢
  have n0 := vo 0 (by omega) (by omega) (by omega)
  have n1 := vo 1 (by omega) (by omega) (by omega)
  have n7 := vo 7 (by omega) (by omega) (by omega)
  have b0 := vo (290 + 81 * p) (by omega) (by omega) (by omega)
  have b1 := vo (290 + 81 * p + 1) (by omega) (by omega) (by omega)
  have b2 := vo (290 + 81 * p + 2) (by omega) (by omega) (by omega)
  have b3 := vo (290 + 81 * p + 3) (by omega) (by omega) (by omega)
  have b4 := vo (290 + 81 * p + 4) (by omega) (by omega) (by omega)
  have b5 := vo (290 + 81 * p + 5) (by omega) (by omega) (by omega)
  have b6 := vo (290 + 81 * p + 6) (by omega) (by omega) (by omega)
  have b7 := vo (290 + 81 * p + 7) (by omega) (by omega) (by omega)
  have bs : ∀ i, i < 52 → wd x h' (290 + 81 * p + 29 + i) = wd x h (290 + 81 * p + 29 + i) := fun i hi => vo _ (by omega) (by omega) (by omega)
  refine (I.le (Nat.le_succ gh) hgh).pu (p := p) (by omega) (Or.inl ⟨n1, hp⟩) ?_ ?_ ?_ (fun k h1 h2 h3 h4 => vo k h2 (by omega) (by omega)) (by omega) (by omega) (fun j h1 h2 h3 => by rw [g9, gi_k h3, gi_n (by omega), gi_n (by omega), gi_n (by omega)]) ?_ ?_ ?_ (fun a h1 h2 h3 h4 => go a h1 (by omega) h3 h4) (m64 3 (by decide)) (m64 5 (by decide)) (m64 10 (by decide)) r
  · unfold WPk
    rw [b0, b1, b2, b3, b4, b5, b6, b7, v8, v6, n7, n0, hP, vo (164 + 21 * (wd x h (290 + 81 * p + 4)).toNat) (by omega) (by omega) (by omega)]
    refine ⟨p1, p2, p3, p4, p5, p6, p7, p8, p9, p10, p11, p12, fun i hi => by rw [bs i hi]; exact p13 i hi, fun _ => ⟨q1, q2, q3, q4, q5, q6, by omega, by omega, fun k hk => ?_⟩⟩
    rw [v9 k hk]
    have := hks k hk
    omega
  · unfold CPk
    rw [b0, b1, b2, b3, b4, b5, b6, b7, v8, hP, g1, go (x + 13 + 6 + 3 * p) (by omega) (by omega) (by omega) (by omega), go (x + 13 + 6 + 3 * p + 2) (by omega) (by omega) (by omega) (by omega)]
    refine ⟨k1, k2, k3, k4, fun i hi => by rw [bs i hi]; exact k5 i hi, fun _ => ⟨?_, ?_, ?_, ?_, ?_, ?_, c, s, ?_, ?_, by omega, by omega, by omega, by omega, v9⟩⟩
    · rw [gi_n (by omega), gi_k (by decide), gi_k (by decide), gi_k (by decide)]; exact l1
    · rw [gi_n (by omega), gi_k (by decide), gi_k (by decide), gi_k (by decide)]; exact l2
    · rw [gi_n (by omega), gi_k (by decide), gi_k (by decide), gi_k (by decide)]; exact l3
    · rw [gi_n (by omega), gi_k (by decide), gi_k (by decide), gi_k (by decide)]; exact l4
    · rw [gi_n (by omega), gi_s]
    · rw [gi_n (by omega), gi_k (by decide), gi_k (by decide), gi_k (by decide)]; exact l6
    · rw [gi_n (by omega), gi_k (by decide), gi_k (by decide), gi_s]
    · rw [gi_n (by omega), gi_k (by decide), gi_s]
  · obtain ⟨u1, u2, u3, u4, u5⟩ := id I.1.2.2.2.2.1
    have e3 : ∀ q, q < 8 → wd x h' (293 + 81 * q) = wd x h (293 + 81 * q) := fun q hq => vo _ (by omega) (by omega) (by omega)
    refine ⟨fun a b h1 h2 h3 h4 => ?_, ?_, fun q h1 h2 => ?_, hgh, fun q h1 => ?_⟩
    · rw [n1] at h1 h2
      rw [e3 a (by omega)] at h3 h4
      rw [e3 b (by omega)] at h4
      exact u1 a b h1 h2 h3 h4
    · rw [n7, n1, u2]
      exact sm_c fun i hi => by rw [e3 i (by omega)]
    · rw [n1] at h1
      rw [e3 q (by omega)] at h2
      have hne : q ≠ p := fun e => by
        subst e
        rw [show 293 + 81 * q = 290 + 81 * q + 3 by omega] at h2
        exact h2 hq
      rw [vo (298 + 81 * q) (by omega) (by omega) (by omega)]
      exact u3 q h1 h2
    · rw [n1] at h1
      have h5 := u5 q h1
      by_cases eq : q = p
      · subst eq
        rw [show 298 + 81 * q = 290 + 81 * q + 8 by omega] at h5 ⊢
        rw [v8]
        rw [hg] at h5
        omega
      · rw [vo (298 + 81 * q) (by omega) (by omega) (by omega)]
        omega
  · rw [g9, gi_k (by decide), gi_n (by omega), gi_n (by omega), gi_n (by omega), n1]; exact e4
  · rw [g9, gi_k (by decide), gi_n (by omega), gi_n (by omega), gi_n (by omega), n7]; exact e6
  · rw [g9, gi_s, v6]
/-- go -/
theorem P_row12 {gh : Nat} {x : Nat} {K : XK} {h : XH} (I : Inv gh x K h) (hgh : gh + 1 ≤ 1000) (a1 a2 : Int32) : ∃ h', f_row12 x h a1 a2 = some h' ∧ Inv (gh + 1) x K h' := by
  obtain ⟨⟨w1, w2, w3, w4, w5, w6, w7, w8, w9, w10, w11, w12, w13, w14, w15, w16⟩, -⟩ := id I.1
  obtain ⟨⟨e1, e4, e6, e7, e8, e10, e12, e15⟩, -⟩ := id I.2.1
  obtain ⟨z1, z1a, z1b, rfl⟩ := jI_ex a1
  obtain ⟨z2, z2a, z2b, rfl⟩ := jI_ex a2
  have e0 : ∀ b1 b2, f_row12 x h b1 b2 = rc_ x (x_lb (f_X11_go x h b1 b2) [0, 2, 1] (fun v h => x_l h (x + 76) (0 : Int32).toNatClampNeg v.toInt64)) (fun h => f_X12_go x h b1 b2) := fun _ _ => rfl
  rw [e0]
  have h1 := I.w1
  have t6 : (6 : Int).toNat = 6 := rfl
  by_cases c : 0 ≤ z1 ∧ z1 < wd x h 1
  · obtain ⟨p, rfl⟩ : ∃ p : Nat, z1 = p := ⟨z1.toNat, by omega⟩
    have hp := c.2
    obtain ⟨p1, p2, p3, p4, p5, p6, p7, p8, p9, p10, p11, p12, p13, p14⟩ := I.wp hp
    have hb := pl_b p7 p8 p11 p12
    by_cases hq : 0 < wd x h (290 + 81 * p + 3)
    · obtain ⟨k1, k2, k3, k4, k5, k6⟩ := I.pk hp
      obtain ⟨l1, l2, l3, l4, l5, l6, -⟩ := k6 hq
      obtain ⟨q1, q2, q3, q4, q5, q6, q7, q8, q9⟩ := p14 hq
      have h20 := I.dr ⟨q1, q2⟩
      have hpl := c_pby I hp p11 p12
      have cy := ckT_y I hp hq
      have ei := fun H eH => rq_isp (H := H) I eH hp
      simp only [if_pos hq] at ei
      have en := fun H eH => rq_noP (H := H) I eH c
      have epl := fun H (eH : wd x H = wd x h) => rq_pls (x := x) (H := H) (p := p) (by omega) (by rw [eH]) (by rw [eH]) p7 p8 p11 p12
      have ew : wd x (x_i h (x + 64) 0 (jI 0)) = wd x h := wm0
      have e6' : ∀ H : XH, wd x H = wd x h → H.1 (x + 65) 6 = jI (wd x h 6) := fun H eH => by rw [wd_j, eH]
      generalize hP : pl_ (wd x h (290 + 81 * p + 2)) (wd x h (290 + 81 * p + 6)) = P at hb hpl epl q4
      have cp : f_X2_places (x + 13 + 6 + 3 * p) h = some (jI P) := by
        simp only [f_X2_places, l3, hpl, Option.bind_some]
      by_cases d : 1 ≤ z2 ∧ z2 ≤ 60
      · have hps : 0 ≤ P * z2 ∧ P * z2 ≤ 52 * 60 := ⟨Int.mul_nonneg (by omega) (by omega), Int.mul_le_mul (by omega) (by omega) (by omega) (by omega)⟩
        by_cases f : wd x h 6 + P * z2 ≤ 1000000
        · have eC : f_X11_go x h (jI p) (jI z2) = some (.inr (jI (wd x h (290 + 81 * p + 8) + 1)), x_i (x_i (x_i (x_i h (x + 13 + 6 + 3 * p + 1) 5 (jI (wd x h 6))) (x + 13 + 6 + 3 * p + 1) 6 (jI z2)) (x + 13 + 6 + 3 * p + 1) 4 (jI (wd x h (290 + 81 * p + 8) + 1))) (x + 9) 7 (jI (wd x h 6 + P * z2))) := by
            simp (disch := omega) only [f_X11_go, f_X11_checkSeconds, f_X11_checkClock, f_X4_touchFrom, jL, jJ, jI_lt, jI_le, jI_eq, jI_nat, jBt, jBo, gi_, gl_, x_let, if_pos, if_neg, if_true, Option.bind_some, tvz, tvo, wd_j, and_self, true_and, and_true, Int.toNat_zero, Int.toNat_natCast, xb_v, xb_e, isb0, isb1, gil, gl2, wd_i, wd_l, cy, cp, e7, l5]
          have eR : ∀ H : XH, wd x H = wd x h → f_X12_go x H (jI p) (jI z2) = some (jI (wd x h (290 + 81 * p + 8) + 1), x_i (x_i (wr_ (x + 65) (290 + 81 * p + 9) (fun k => wd x h 6 + k * z2) P.toNat (x_i (H) (x + 64) 0 (jI 0))) (x + 65) 6 (jI (wd x h 6 + P * z2))) (x + 65) (290 + 81 * p + 8) (jI (wd x h (290 + 81 * p + 8) + 1))) := fun H eH => by
            have eW : wd x (x_i H (x + 64) 0 (jI 0)) = wd x h := by rw [wm0, eH]
            have et := r_touch (x := x) (H := x_i H (x + 64) 0 (jI 0)) (p := p) (s := z2) (by omega) (by rw [eW]) (by rw [eW]) p7 p8 p11 p12 (by rw [eW])
            rw [hP] at et
            have t8 : (8 : Int).toNat = 8 := rfl
            have o8 := of_8 (x := x) (h := x_i (wr_ (x + 65) (290 + 81 * p + 9) (fun k => wd x h 6 + k * z2) P.toNat (x_i H (x + 64) 0 (jI 0))) (x + 65) 6 (jI (wd x h 6 + P * z2))) (p := p) (by omega)
            rw [wd_s _ (by omega) (by omega), if_neg (by omega), wd_wo _ (by omega), eW] at o8
            have st := rq_set (x := x) (H := x_i (wr_ (x + 65) (290 + 81 * p + 9) (fun k => wd x h 6 + k * z2) P.toNat (x_i H (x + 64) 0 (jI 0))) (x + 65) 6 (jI (wd x h 6 + P * z2))) (p := p) (j := 8) (v := jI (wd x h (290 + 81 * p + 8) + 1)) (by omega) (by omega)
            rw [t8] at st
            have o8' := of_8 (x := x) (h := x_i (x_i (wr_ (x + 65) (290 + 81 * p + 9) (fun k => wd x h 6 + k * z2) P.toNat (x_i H (x + 64) 0 (jI 0))) (x + 65) 6 (jI (wd x h 6 + P * z2))) (x + 65) (290 + 81 * p + 8) (jI (wd x h (290 + 81 * p + 8) + 1))) (p := p) (by omega)
            rw [wd_s _ (by omega) (by omega), if_pos rfl] at o8'
            have e6'' := e6' _ eW
            simp (disch := omega) only [f_X12_go, f_X12_noSeconds, f_X12_in, jL, jJ, jI_lt, jI_le, jI_eq, jI_nat, jBt, jBo, gl_, x_let, if_pos, if_neg, if_true, Option.bind_some, tvz, tvo, and_self, true_and, and_true, Int.toNat_zero, Int.toNat_natCast, xb_v, xb_e, isb0, isb1, gil, gl2, wd_i, wd_l, en _ eW, ei _ eW, epl _ eW, e6'', t6, et, o8, st, o8']
          refine ⟨_, rc_v eC (eR _ (by funext k; rw [wd_l, wd_i _ (by omega), wd_i _ (by omega), wd_i _ (by omega), wd_i _ (by omega)])) (by rw [gi_n (by omega), gi_n (by omega), wr_n (by omega), gi_s]; rfl) (by rw [gi_2, gi_2, wr_2]; rfl), ?_⟩
          exact I.go hp hq rfl rfl hP d f hgh
        · refine ⟨x_i (x_i h (x + 64) 0 (jI 0)) (x + 64) 0 (jI 3), rc_e (r := jI 0) (h1 := h) (e := 1) (j := 2) ?_ rfl (by decide) ?_ ?_, (I.le (Nat.le_succ gh) hgh).fr fr_t⟩
          · simp (disch := omega) only [f_X11_go, f_X11_checkSeconds, f_X11_checkClock, jL, jJ, jI_lt, jI_le, jI_eq, jI_nat, jBt, jBo, gi_, gl_, x_let, if_pos, if_neg, if_true, Option.bind_some, tvz, tvo, wd_j, and_self, true_and, and_true, Int.toNat_zero, Int.toNat_natCast, xb_v, xb_e, isb0, isb1, gil, gl2, wd_i, wd_l, cy, cp, e7]
          · have e6'' := e6' _ ew
            simp (disch := omega) only [f_X12_go, f_X12_go_80, f_X12_noSeconds, f_X12_in, jL, jJ, jI_lt, jI_le, jI_eq, jI_nat, jBt, jBo, gl_, x_let, if_pos, if_neg, if_true, Option.bind_some, tvz, tvo, and_self, true_and, and_true, Int.toNat_zero, Int.toNat_natCast, xb_v, xb_e, isb0, isb1, gil, gl2, wd_i, wd_l, en _ ew, ei _ ew, epl _ ew, e6'', t6]
          · simp (disch := omega) only [gi_n, gi_s]; rfl
      · refine ⟨x_i (x_i h (x + 64) 0 (jI 0)) (x + 64) 0 (jI 3), rc_e (r := jI 0) (h1 := h) (e := 1) (j := 2) ?_ rfl (by decide) ?_ ?_, (I.le (Nat.le_succ gh) hgh).fr fr_t⟩
        · by_cases d1 : z2 < 1
          · simp (disch := omega) only [f_X11_go, f_X11_checkSeconds, f_X11_checkSeconds_11, jL, jJ, jI_lt, jI_le, jI_eq, jI_nat, jBt, jBo, gi_, gl_, x_let, if_pos, if_neg, if_true, Option.bind_some, tvz, tvo, wd_j, and_self, true_and, and_true, Int.toNat_zero, Int.toNat_natCast, xb_v, xb_e, isb0, isb1, gil, gl2, wd_i, wd_l, cy]
          · simp (disch := omega) only [f_X11_go, f_X11_checkSeconds, f_X11_checkSeconds_11, jL, jJ, jI_lt, jI_le, jI_eq, jI_nat, jBt, jBo, gi_, gl_, x_let, if_pos, if_neg, if_true, Option.bind_some, tvz, tvo, wd_j, and_self, true_and, and_true, Int.toNat_zero, Int.toNat_natCast, xb_v, xb_e, isb0, isb1, gil, gl2, wd_i, wd_l, cy]
        · by_cases d1 : z2 < 1
          · simp (disch := omega) only [f_X12_go, f_X12_go_68, f_X12_go_73, f_X12_go_80, f_X12_noSeconds, f_X12_in, jL, jJ, jI_lt, jI_le, jI_eq, jI_nat, jBt, jBo, gl_, x_let, if_pos, if_neg, if_true, Option.bind_some, tvz, tvo, and_self, true_and, and_true, Int.toNat_zero, Int.toNat_natCast, xb_v, xb_e, isb0, isb1, gil, gl2, wd_i, wd_l, en _ ew, ei _ ew]
          · simp (disch := omega) only [f_X12_go, f_X12_go_68, f_X12_go_73, f_X12_go_80, f_X12_noSeconds, f_X12_in, jL, jJ, jI_lt, jI_le, jI_eq, jI_nat, jBt, jBo, gl_, x_let, if_pos, if_neg, if_true, Option.bind_some, tvz, tvo, and_self, true_and, and_true, Int.toNat_zero, Int.toNat_natCast, xb_v, xb_e, isb0, isb1, gil, gl2, wd_i, wd_l, en _ ew, ei _ ew]
        · simp (disch := omega) only [gi_n, gi_s]; rfl
    · refine ⟨x_i (x_i h (x + 64) 0 (jI 0)) (x + 64) 0 (jI 2), rc_e (r := jI 0) (h1 := h) (e := 2) (j := 1) ?_ rfl (by decide) ?_ ?_, (I.le (Nat.le_succ gh) hgh).fr fr_t⟩
      · simp (disch := omega) only [f_X11_go, jL, jJ, jI_lt, jI_le, jI_eq, jI_nat, jBt, jBo, gi_, gl_, x_let, if_pos, if_neg, if_true, Option.bind_some, tvz, tvo, wd_j, and_self, true_and, and_true, Int.toNat_zero, Int.toNat_natCast, xb_v, xb_e, isb0, isb1, gil, gl2, wd_i, wd_l, ckT_n I hp hq]
      · have ew : wd x (x_i h (x + 64) 0 (jI 0)) = wd x h := wm0
        have ei := rq_isp I ew hp
        rw [if_neg hq] at ei
        simp (disch := omega) only [f_X12_go, f_X12_go_80, jL, jJ, jI_lt, jI_le, jI_eq, jI_nat, jBt, jBo, gl_, x_let, if_pos, if_neg, if_true, Option.bind_some, tvz, tvo, and_self, true_and, and_true, Int.toNat_zero, Int.toNat_natCast, xb_v, xb_e, isb0, isb1, gil, gl2, wd_i, wd_l, rq_noP I ew c, ei]
      · simp (disch := omega) only [gi_n, gi_s]; rfl
  · refine ⟨x_i (x_i h (x + 64) 0 (jI 0)) (x + 64) 0 (jI 1), rc_e (r := jI 0) (h1 := h) (e := 0) (j := 0) ?_ rfl (by decide) ?_ ?_, (I.le (Nat.le_succ gh) hgh).fr fr_t⟩
    · simp (disch := omega) only [f_X11_go, f_X11_checkPut, jL, jJ, jI_lt, jI_le, jI_eq, jI_nat, jBt, jBo, gi_, gl_, x_let, if_pos, if_neg, if_true, Option.bind_some, tvz, tvo, wd_j, and_self, true_and, and_true, Int.toNat_zero, Int.toNat_natCast, xb_v, xb_e, isb0, isb1, gil, gl2, wd_i, wd_l, ckP_n I ⟨z1a, z1b⟩ c]
    · have rn := ckP_rn I.m0 ⟨z1a, z1b⟩ (by rw [wm0]; exact c)
      simp (disch := omega) only [f_X12_go, f_X12_go_80, jL, jJ, jI_lt, jI_le, jI_eq, jI_nat, jBt, jBo, gl_, x_let, if_pos, if_neg, if_true, Option.bind_some, tvz, tvo, and_self, true_and, and_true, Int.toNat_zero, Int.toNat_natCast, xb_v, xb_e, isb0, isb1, gil, gl2, wd_i, wd_l, rn]
    · simp (disch := omega) only [gi_n, gi_s]; rfl
