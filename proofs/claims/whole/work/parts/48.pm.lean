/-! ===== pack ===== -/
theorem c_fill {K : XK} {h : XH} {v0 : Nat} (hK : (K v0).2 = 52) : f_J7_fill_53178 K h v0 (jI (-1)) = some (wr_ v0 0 (fun _ => -1) 52 h) := by
  unfold f_J7_fill_53178
  rw [hK, show nI 52 = jI 52 from jI_nI 52]
  exact x_up0 (P := fun m i => f_J7_fill_53178_5 K m (wr_ v0 0 (fun _ => -1) i h) v0 (jI (-1)) (jI (i : Int)) (jI 52) = some (wr_ v0 0 (fun _ => -1) 52 h)) 52 (by omega) (fun m => by
    simp (disch := omega) only [f_J7_fill_53178_5, jL, jJ, jI_lt, jI_le, jI_eq, jI_nat, jBt, jBo, gl_, x_let, if_pos, if_neg, if_true, Option.bind_some, tvz, tvo, and_self, true_and, and_true, Int.toNat_zero, Int.toNat_natCast, xb_v, xb_e, isb0, isb1, gil, gl2, wd_i, wd_l]) (fun m i hi ih => by
    have ih' : f_J7_fill_53178_5 K m (x_i (wr_ v0 0 (fun _ => -1) i h) v0 (0 + i) (jI (-1))) v0 (jI (-1)) (jI ((i : Int) + 1)) (jI 52) = _ := ih
    rw [Nat.zero_add] at ih'
    simp (disch := omega) only [f_J7_fill_53178_5, jL, jJ, jI_lt, jI_le, jI_eq, jI_nat, jBt, jBo, gl_, x_let, if_pos, if_neg, if_true, Option.bind_some, tvz, tvo, and_self, true_and, and_true, Int.toNat_zero, Int.toNat_natCast, xb_v, xb_e, isb0, isb1, gil, gl2, wd_i, wd_l, hK, ih'])
theorem rq_said {x : Nat} {H : XH} {p : Nat} {z1 z2 z3 : Int} (hp : p < 8) (w1 : wd x H 1 = p) : f_X12_pack_120 x x_FU H (jI z1) (jI z2) (jI z3) (jI p) (jI 0) = some (jI p, x_i (x_i (x_i (x_i (x_i (wr_ (x + 65) (290 + 81 * p + 29) (fun _ => -1) 52 H) (x + 65) (290 + 81 * p) (jI z1)) (x + 65) (290 + 81 * p + 1) (jI z2)) (x + 65) (290 + 81 * p + 2) (jI z3)) (x + 65) (290 + 81 * p + 6) (jI 1)) (x + 65) 1 (jI ((p : Int) + 1))) := by
  have e1 : (x_i (x_i (x_i (x_i (wr_ (x + 65) (290 + 81 * p + 29) (fun _ => -1) 52 H) (x + 65) (290 + 81 * p) (jI z1)) (x + 65) (290 + 81 * p + 1) (jI z2)) (x + 65) (290 + 81 * p + 2) (jI z3)) (x + 65) (290 + 81 * p + 6) (jI 1)).1 (x + 65) 1 = jI p := by
    rw [gi_k (by omega), gi_k (by omega), gi_k (by omega), gi_k (by omega), wd_j, wd_wo _ (by omega), w1]
  have s0 := fun H v => rq_set (x := x) (H := H) (p := p) (j := 0) (v := v) (by omega) (by omega)
  have s1 := fun H v => rq_set (x := x) (H := H) (p := p) (j := 1) (v := v) (by omega) (by omega)
  have s2 := fun H v => rq_set (x := x) (H := H) (p := p) (j := 2) (v := v) (by omega) (by omega)
  have s6 := fun H v => rq_set (x := x) (H := H) (p := p) (j := 6) (v := v) (by omega) (by omega)
  rw [show (0 : Int).toNat = 0 from rfl] at s0
  rw [show (1 : Int).toNat = 1 from rfl] at s1
  rw [show (2 : Int).toNat = 2 from rfl] at s2
  rw [show (6 : Int).toNat = 6 from rfl] at s6
  simp only [Nat.add_zero] at s0
  have t1 : (1 : Int).toNat = 1 := rfl
  exact x_up0 (P := fun m i => f_X12_pack_120 x m (wr_ (x + 65) (290 + 81 * p + 29) (fun _ => -1) i H) (jI z1) (jI z2) (jI z3) (jI p) (jI (i : Int)) = some (jI p, x_i (x_i (x_i (x_i (x_i (wr_ (x + 65) (290 + 81 * p + 29) (fun _ => -1) 52 H) (x + 65) (290 + 81 * p) (jI z1)) (x + 65) (290 + 81 * p + 1) (jI z2)) (x + 65) (290 + 81 * p + 2) (jI z3)) (x + 65) (290 + 81 * p + 6) (jI 1)) (x + 65) 1 (jI ((p : Int) + 1)))) 52 (by omega) (fun m => by
    unfold f_X12_pack_120
    rw [if_pos (show (52 : Int32) ≤ jI ((52 : Nat) : Int) from (by decide))]
    simp (disch := omega) only [jL, jJ, jI_lt, jI_le, jI_eq, jI_nat, jBt, jBo, gl_, x_let, if_pos, if_neg, if_true, Option.bind_some, tvz, tvo, and_self, true_and, and_true, Int.toNat_zero, Int.toNat_natCast, xb_v, xb_e, isb0, isb1, gil, gl2, wd_i, wd_l, s0, s1, s2, s6, t1, e1]) (fun m i hi ih => by
    have es := fun v => rq_set (x := x) (H := wr_ (x + 65) (290 + 81 * p + 29) (fun _ => -1) i H) (j := 29 + (i : Int)) (v := v) hp (by omega)
    have t : 290 + 81 * p + (29 + (i : Int)).toNat = 290 + 81 * p + 29 + i := by omega
    rw [t] at es
    have ih' : f_X12_pack_120 x m (x_i (wr_ (x + 65) (290 + 81 * p + 29) (fun _ => -1) i H) (x + 65) (290 + 81 * p + 29 + i) (jI (-1))) (jI z1) (jI z2) (jI z3) (jI p) (jI ((i : Int) + 1)) = _ := ih
    unfold f_X12_pack_120
    rw [if_neg (show ¬ (52 : Int32) ≤ jI ((i : Nat) : Int) from fun e => absurd ((jI_le (by omega) (by omega) (by omega) (by omega)).mp (show jI 52 ≤ jI (i : Int) from e)) (by omega)), show (29 : Int32) + jI (i : Int) = jI (29 + (i : Int)) from by rw [← jI_add]; rfl, m1_, es, Option.bind_some, show jI (i : Int) + 1 = jI ((i : Int) + 1) from by rw [← jI_add]; rfl]
    exact ih')
theorem rq_zero {x : Nat} {H : XH} {p : Nat} {z1 z2 z3 : Int} (hp : p < 8) : f_X12_pack_95 x x_FU H (jI z1) (jI z2) (jI z3) (jI p) (jI 0) = f_X12_pack_120 x x_FU (wr_ (x + 65) (290 + 81 * p) (fun _ => 0) 81 H) (jI z1) (jI z2) (jI z3) (jI p) (jI 0) := by
  exact x_up0 (P := fun m i => f_X12_pack_95 x m (wr_ (x + 65) (290 + 81 * p) (fun _ => 0) i H) (jI z1) (jI z2) (jI z3) (jI p) (jI (i : Int)) = f_X12_pack_120 x x_FU (wr_ (x + 65) (290 + 81 * p) (fun _ => 0) 81 H) (jI z1) (jI z2) (jI z3) (jI p) (jI 0)) 81 (by omega) (fun m => by
    unfold f_X12_pack_95
    rw [if_pos (show (81 : Int32) ≤ jI ((81 : Nat) : Int) from (by decide))]
    rfl) (fun m i hi ih => by
    have es := fun v => rq_set (x := x) (H := wr_ (x + 65) (290 + 81 * p) (fun _ => 0) i H) (j := (i : Int)) (v := v) hp (by omega)
    rw [Int.toNat_natCast] at es
    have ih' : f_X12_pack_95 x m (x_i (wr_ (x + 65) (290 + 81 * p) (fun _ => 0) i H) (x + 65) (290 + 81 * p + i) (jI 0)) (jI z1) (jI z2) (jI z3) (jI p) (jI ((i : Int) + 1)) = _ := ih
    unfold f_X12_pack_95
    rw [if_neg (show ¬ (81 : Int32) ≤ jI ((i : Nat) : Int) from fun e => absurd ((jI_le (by omega) (by omega) (by omega) (by omega)).mp (show jI 81 ≤ jI (i : Int) from e)) (by omega)), es, Option.bind_some, show jI (i : Int) + 1 = jI ((i : Int) + 1) from by rw [← jI_add]; rfl]
    exact ih')
/-- what the heap holds when a pack was made -/
theorem Inv.pm {gh : Nat} {x : Nat} {K : XK} {h : XH} (I : Inv gh x K h) {p : Nat} {z1 z2 z3 : Int} {u : Nat} {V : Int64} (hp : wd x h 1 = p) (h8 : p < 8) (c1 : 0 ≤ z1 ∧ z1 < 52) (c2 : 1 ≤ z2 ∧ z2 < 52) (c3 : z2 % 2 = 1) (c4 : z2 % 13 ≠ 0) (c5 : 3 ≤ z3 ∧ z3 ≤ 52) :
    Inv gh x K (x_i (x_i (x_i (x_i (x_i (wr_ (x + 65) (290 + 81 * p + 29) (fun _ => -1) 52 (wr_ (x + 65) (290 + 81 * p) (fun _ => 0) 81 (x_i (x_l (x_i (wr_ (x + 13 + 6 + 3 * p + 2) 0 (fun _ => -1) 52 (x_i (x_i (x_i (x_i h (x + 13 + 6 + 3 * p) 0 (jI z1)) (x + 13 + 6 + 3 * p) 1 (jI z2)) (x + 13 + 6 + 3 * p) 2 (jI z3)) (x + 13 + 6 + 3 * p) 3 (jI 0))) (x + 9) 4 (jI ((p : Int) + 1))) (x + 76) u V) (x + 64) 0 (jI 0)))) (x + 65) (290 + 81 * p) (jI z1)) (x + 65) (290 + 81 * p + 1) (jI z2)) (x + 65) (290 + 81 * p + 2) (jI z3)) (x + 65) (290 + 81 * p + 6) (jI 1)) (x + 65) 1 (jI ((p : Int) + 1))) := by
  obtain ⟨⟨g1, g2, g3, g4, g5, g6, g7, g8, g9, g10, g11, g12, g13, g14, g15, g16⟩, -⟩ := id I.1
  obtain ⟨⟨e1, e4, e6, e7, e8, e10, e12, e15⟩, -⟩ := id I.2.1
  obtain ⟨u1, u2, u3, u4, u5⟩ := id I.1.2.2.2.2.1
  have v1 : wd x (x_i (x_i (x_i (x_i (x_i (wr_ (x + 65) (290 + 81 * p + 29) (fun _ => -1) 52 (wr_ (x + 65) (290 + 81 * p) (fun _ => 0) 81 (x_i (x_l (x_i (wr_ (x + 13 + 6 + 3 * p + 2) 0 (fun _ => -1) 52 (x_i (x_i (x_i (x_i h (x + 13 + 6 + 3 * p) 0 (jI z1)) (x + 13 + 6 + 3 * p) 1 (jI z2)) (x + 13 + 6 + 3 * p) 2 (jI z3)) (x + 13 + 6 + 3 * p) 3 (jI 0))) (x + 9) 4 (jI ((p : Int) + 1))) (x + 76) u V) (x + 64) 0 (jI 0)))) (x + 65) (290 + 81 * p) (jI z1)) (x + 65) (290 + 81 * p + 1) (jI z2)) (x + 65) (290 + 81 * p + 2) (jI z3)) (x + 65) (290 + 81 * p + 6) (jI 1)) (x + 65) 1 (jI ((p : Int) + 1))) 1 = p + 1 := by rw [wd_s _ (by omega) (by omega), if_pos rfl]
  have b6 : wd x (x_i (x_i (x_i (x_i (x_i (wr_ (x + 65) (290 + 81 * p + 29) (fun _ => -1) 52 (wr_ (x + 65) (290 + 81 * p) (fun _ => 0) 81 (x_i (x_l (x_i (wr_ (x + 13 + 6 + 3 * p + 2) 0 (fun _ => -1) 52 (x_i (x_i (x_i (x_i h (x + 13 + 6 + 3 * p) 0 (jI z1)) (x + 13 + 6 + 3 * p) 1 (jI z2)) (x + 13 + 6 + 3 * p) 2 (jI z3)) (x + 13 + 6 + 3 * p) 3 (jI 0))) (x + 9) 4 (jI ((p : Int) + 1))) (x + 76) u V) (x + 64) 0 (jI 0)))) (x + 65) (290 + 81 * p) (jI z1)) (x + 65) (290 + 81 * p + 1) (jI z2)) (x + 65) (290 + 81 * p + 2) (jI z3)) (x + 65) (290 + 81 * p + 6) (jI 1)) (x + 65) 1 (jI ((p : Int) + 1))) (290 + 81 * p + 6) = 1 := by rw [wd_s _ (by omega) (by omega), if_neg (by omega), wd_s _ (by omega) (by omega), if_pos rfl]
  have b2 : wd x (x_i (x_i (x_i (x_i (x_i (wr_ (x + 65) (290 + 81 * p + 29) (fun _ => -1) 52 (wr_ (x + 65) (290 + 81 * p) (fun _ => 0) 81 (x_i (x_l (x_i (wr_ (x + 13 + 6 + 3 * p + 2) 0 (fun _ => -1) 52 (x_i (x_i (x_i (x_i h (x + 13 + 6 + 3 * p) 0 (jI z1)) (x + 13 + 6 + 3 * p) 1 (jI z2)) (x + 13 + 6 + 3 * p) 2 (jI z3)) (x + 13 + 6 + 3 * p) 3 (jI 0))) (x + 9) 4 (jI ((p : Int) + 1))) (x + 76) u V) (x + 64) 0 (jI 0)))) (x + 65) (290 + 81 * p) (jI z1)) (x + 65) (290 + 81 * p + 1) (jI z2)) (x + 65) (290 + 81 * p + 2) (jI z3)) (x + 65) (290 + 81 * p + 6) (jI 1)) (x + 65) 1 (jI ((p : Int) + 1))) (290 + 81 * p + 2) = z3 := by rw [wd_s _ (by omega) (by omega), if_neg (by omega), wd_s _ (by omega) (by omega), if_neg (by omega), wd_s _ (by omega) (by omega), if_pos rfl]
  have b1 : wd x (x_i (x_i (x_i (x_i (x_i (wr_ (x + 65) (290 + 81 * p + 29) (fun _ => -1) 52 (wr_ (x + 65) (290 + 81 * p) (fun _ => 0) 81 (x_i (x_l (x_i (wr_ (x + 13 + 6 + 3 * p + 2) 0 (fun _ => -1) 52 (x_i (x_i (x_i (x_i h (x + 13 + 6 + 3 * p) 0 (jI z1)) (x + 13 + 6 + 3 * p) 1 (jI z2)) (x + 13 + 6 + 3 * p) 2 (jI z3)) (x + 13 + 6 + 3 * p) 3 (jI 0))) (x + 9) 4 (jI ((p : Int) + 1))) (x + 76) u V) (x + 64) 0 (jI 0)))) (x + 65) (290 + 81 * p) (jI z1)) (x + 65) (290 + 81 * p + 1) (jI z2)) (x + 65) (290 + 81 * p + 2) (jI z3)) (x + 65) (290 + 81 * p + 6) (jI 1)) (x + 65) 1 (jI ((p : Int) + 1))) (290 + 81 * p + 1) = z2 := by rw [wd_s _ (by omega) (by omega), if_neg (by omega), wd_s _ (by omega) (by omega), if_neg (by omega), wd_s _ (by omega) (by omega), if_neg (by omega), wd_s _ (by omega) (by omega), if_pos rfl]
  have b0 : wd x (x_i (x_i (x_i (x_i (x_i (wr_ (x + 65) (290 + 81 * p + 29) (fun _ => -1) 52 (wr_ (x + 65) (290 + 81 * p) (fun _ => 0) 81 (x_i (x_l (x_i (wr_ (x + 13 + 6 + 3 * p + 2) 0 (fun _ => -1) 52 (x_i (x_i (x_i (x_i h (x + 13 + 6 + 3 * p) 0 (jI z1)) (x + 13 + 6 + 3 * p) 1 (jI z2)) (x + 13 + 6 + 3 * p) 2 (jI z3)) (x + 13 + 6 + 3 * p) 3 (jI 0))) (x + 9) 4 (jI ((p : Int) + 1))) (x + 76) u V) (x + 64) 0 (jI 0)))) (x + 65) (290 + 81 * p) (jI z1)) (x + 65) (290 + 81 * p + 1) (jI z2)) (x + 65) (290 + 81 * p + 2) (jI z3)) (x + 65) (290 + 81 * p + 6) (jI 1)) (x + 65) 1 (jI ((p : Int) + 1))) (290 + 81 * p) = z1 := by rw [wd_s _ (by omega) (by omega), if_neg (by omega), wd_s _ (by omega) (by omega), if_neg (by omega), wd_s _ (by omega) (by omega), if_neg (by omega), wd_s _ (by omega) (by omega), if_neg (by omega), wd_s _ (by omega) (by omega), if_pos rfl]
  have bs : ∀ i, i < 52 → wd x (x_i (x_i (x_i (x_i (x_i (wr_ (x + 65) (290 + 81 * p + 29) (fun _ => -1) 52 (wr_ (x + 65) (290 + 81 * p) (fun _ => 0) 81 (x_i (x_l (x_i (wr_ (x + 13 + 6 + 3 * p + 2) 0 (fun _ => -1) 52 (x_i (x_i (x_i (x_i h (x + 13 + 6 + 3 * p) 0 (jI z1)) (x + 13 + 6 + 3 * p) 1 (jI z2)) (x + 13 + 6 + 3 * p) 2 (jI z3)) (x + 13 + 6 + 3 * p) 3 (jI 0))) (x + 9) 4 (jI ((p : Int) + 1))) (x + 76) u V) (x + 64) 0 (jI 0)))) (x + 65) (290 + 81 * p) (jI z1)) (x + 65) (290 + 81 * p + 1) (jI z2)) (x + 65) (290 + 81 * p + 2) (jI z3)) (x + 65) (290 + 81 * p + 6) (jI 1)) (x + 65) 1 (jI ((p : Int) + 1))) (290 + 81 * p + 29 + i) = -1 := fun i hi => by rw [wd_s _ (by omega) (by omega), if_neg (by omega), wd_s _ (by omega) (by omega), if_neg (by omega), wd_s _ (by omega) (by omega), if_neg (by omega), wd_s _ (by omega) (by omega), if_neg (by omega), wd_s _ (by omega) (by omega), if_neg (by omega), wd_wi i hi ⟨by omega, by omega⟩]
  have bz : ∀ i, 3 ≤ i → i < 29 → i ≠ 6 → wd x (x_i (x_i (x_i (x_i (x_i (wr_ (x + 65) (290 + 81 * p + 29) (fun _ => -1) 52 (wr_ (x + 65) (290 + 81 * p) (fun _ => 0) 81 (x_i (x_l (x_i (wr_ (x + 13 + 6 + 3 * p + 2) 0 (fun _ => -1) 52 (x_i (x_i (x_i (x_i h (x + 13 + 6 + 3 * p) 0 (jI z1)) (x + 13 + 6 + 3 * p) 1 (jI z2)) (x + 13 + 6 + 3 * p) 2 (jI z3)) (x + 13 + 6 + 3 * p) 3 (jI 0))) (x + 9) 4 (jI ((p : Int) + 1))) (x + 76) u V) (x + 64) 0 (jI 0)))) (x + 65) (290 + 81 * p) (jI z1)) (x + 65) (290 + 81 * p + 1) (jI z2)) (x + 65) (290 + 81 * p + 2) (jI z3)) (x + 65) (290 + 81 * p + 6) (jI 1)) (x + 65) 1 (jI ((p : Int) + 1))) (290 + 81 * p + i) = 0 := fun i h1 h2 h3 => by rw [wd_s _ (by omega) (by omega), if_neg (by omega), wd_s _ (by omega) (by omega), if_neg (by omega), wd_s _ (by omega) (by omega), if_neg (by omega), wd_s _ (by omega) (by omega), if_neg (by omega), wd_s _ (by omega) (by omega), if_neg (by omega), wd_wo _ (by omega), wd_wi i (by omega) ⟨by omega, by omega⟩]
  have vo : ∀ k : Nat, k ≠ 1 → k < 290 + 81 * p ∨ 371 + 81 * p ≤ k → wd x (x_i (x_i (x_i (x_i (x_i (wr_ (x + 65) (290 + 81 * p + 29) (fun _ => -1) 52 (wr_ (x + 65) (290 + 81 * p) (fun _ => 0) 81 (x_i (x_l (x_i (wr_ (x + 13 + 6 + 3 * p + 2) 0 (fun _ => -1) 52 (x_i (x_i (x_i (x_i h (x + 13 + 6 + 3 * p) 0 (jI z1)) (x + 13 + 6 + 3 * p) 1 (jI z2)) (x + 13 + 6 + 3 * p) 2 (jI z3)) (x + 13 + 6 + 3 * p) 3 (jI 0))) (x + 9) 4 (jI ((p : Int) + 1))) (x + 76) u V) (x + 64) 0 (jI 0)))) (x + 65) (290 + 81 * p) (jI z1)) (x + 65) (290 + 81 * p + 1) (jI z2)) (x + 65) (290 + 81 * p + 2) (jI z3)) (x + 65) (290 + 81 * p + 6) (jI 1)) (x + 65) 1 (jI ((p : Int) + 1))) k = wd x h k := fun k h1 h3 => by
    rw [wd_s _ (by omega) (by omega), if_neg (by omega), wd_s _ (by omega) (by omega), if_neg (by omega), wd_s _ (by omega) (by omega), if_neg (by omega), wd_s _ (by omega) (by omega), if_neg (by omega), wd_s _ (by omega) (by omega), if_neg (by omega), wd_wo _ (by omega), wd_wo _ (by omega), wd_i _ (by omega), wd_l, wd_i _ (by omega)]
    unfold wd
    rw [wr_n (by omega), gi_n (by omega), gi_n (by omega), gi_n (by omega), gi_n (by omega)]
  have gn : ∀ a, a ≠ x + 64 → a ≠ x + 65 → (x_i (x_i (x_i (x_i (x_i (wr_ (x + 65) (290 + 81 * p + 29) (fun _ => -1) 52 (wr_ (x + 65) (290 + 81 * p) (fun _ => 0) 81 (x_i (x_l (x_i (wr_ (x + 13 + 6 + 3 * p + 2) 0 (fun _ => -1) 52 (x_i (x_i (x_i (x_i h (x + 13 + 6 + 3 * p) 0 (jI z1)) (x + 13 + 6 + 3 * p) 1 (jI z2)) (x + 13 + 6 + 3 * p) 2 (jI z3)) (x + 13 + 6 + 3 * p) 3 (jI 0))) (x + 9) 4 (jI ((p : Int) + 1))) (x + 76) u V) (x + 64) 0 (jI 0)))) (x + 65) (290 + 81 * p) (jI z1)) (x + 65) (290 + 81 * p + 1) (jI z2)) (x + 65) (290 + 81 * p + 2) (jI z3)) (x + 65) (290 + 81 * p + 6) (jI 1)) (x + 65) 1 (jI ((p : Int) + 1))).1 a = (x_i (wr_ (x + 13 + 6 + 3 * p + 2) 0 (fun _ => -1) 52 (x_i (x_i (x_i (x_i h (x + 13 + 6 + 3 * p) 0 (jI z1)) (x + 13 + 6 + 3 * p) 1 (jI z2)) (x + 13 + 6 + 3 * p) 2 (jI z3)) (x + 13 + 6 + 3 * p) 3 (jI 0))) (x + 9) 4 (jI ((p : Int) + 1))).1 a := fun a h1 h2 => by
    rw [gi_n h2, gi_n h2, gi_n h2, gi_n h2, gi_n h2, wr_n h2, wr_n h2, gi_n h1, gl_]
  have ga2 : ∀ i, i < 52 → (x_i (x_i (x_i (x_i (x_i (wr_ (x + 65) (290 + 81 * p + 29) (fun _ => -1) 52 (wr_ (x + 65) (290 + 81 * p) (fun _ => 0) 81 (x_i (x_l (x_i (wr_ (x + 13 + 6 + 3 * p + 2) 0 (fun _ => -1) 52 (x_i (x_i (x_i (x_i h (x + 13 + 6 + 3 * p) 0 (jI z1)) (x + 13 + 6 + 3 * p) 1 (jI z2)) (x + 13 + 6 + 3 * p) 2 (jI z3)) (x + 13 + 6 + 3 * p) 3 (jI 0))) (x + 9) 4 (jI ((p : Int) + 1))) (x + 76) u V) (x + 64) 0 (jI 0)))) (x + 65) (290 + 81 * p) (jI z1)) (x + 65) (290 + 81 * p + 1) (jI z2)) (x + 65) (290 + 81 * p + 2) (jI z3)) (x + 65) (290 + 81 * p + 6) (jI 1)) (x + 65) 1 (jI ((p : Int) + 1))).1 (x + 13 + 6 + 3 * p + 2) i = jI (-1) := fun i hi => by
    rw [gn _ (by omega) (by omega), gi_n (by omega)]
    have := wr_i (a := (x + 13 + 6 + 3 * p + 2)) (b := 0) (n := 52) (f := fun _ => -1) (h := x_i (x_i (x_i (x_i h (x + 13 + 6 + 3 * p) 0 (jI z1)) (x + 13 + 6 + 3 * p) 1 (jI z2)) (x + 13 + 6 + 3 * p) 2 (jI z3)) (x + 13 + 6 + 3 * p) 3 (jI 0)) hi
    rw [Nat.zero_add] at this
    exact this
  have ga0 : (x_i (x_i (x_i (x_i (x_i (wr_ (x + 65) (290 + 81 * p + 29) (fun _ => -1) 52 (wr_ (x + 65) (290 + 81 * p) (fun _ => 0) 81 (x_i (x_l (x_i (wr_ (x + 13 + 6 + 3 * p + 2) 0 (fun _ => -1) 52 (x_i (x_i (x_i (x_i h (x + 13 + 6 + 3 * p) 0 (jI z1)) (x + 13 + 6 + 3 * p) 1 (jI z2)) (x + 13 + 6 + 3 * p) 2 (jI z3)) (x + 13 + 6 + 3 * p) 3 (jI 0))) (x + 9) 4 (jI ((p : Int) + 1))) (x + 76) u V) (x + 64) 0 (jI 0)))) (x + 65) (290 + 81 * p) (jI z1)) (x + 65) (290 + 81 * p + 1) (jI z2)) (x + 65) (290 + 81 * p + 2) (jI z3)) (x + 65) (290 + 81 * p + 6) (jI 1)) (x + 65) 1 (jI ((p : Int) + 1))).1 (x + 13 + 6 + 3 * p) = (x_i (x_i (x_i (x_i h (x + 13 + 6 + 3 * p) 0 (jI z1)) (x + 13 + 6 + 3 * p) 1 (jI z2)) (x + 13 + 6 + 3 * p) 2 (jI z3)) (x + 13 + 6 + 3 * p) 3 (jI 0)).1 (x + 13 + 6 + 3 * p) := by rw [gn _ (by omega) (by omega), gi_n (by omega), wr_n (by omega)]
  have ga9 : (x_i (x_i (x_i (x_i (x_i (wr_ (x + 65) (290 + 81 * p + 29) (fun _ => -1) 52 (wr_ (x + 65) (290 + 81 * p) (fun _ => 0) 81 (x_i (x_l (x_i (wr_ (x + 13 + 6 + 3 * p + 2) 0 (fun _ => -1) 52 (x_i (x_i (x_i (x_i h (x + 13 + 6 + 3 * p) 0 (jI z1)) (x + 13 + 6 + 3 * p) 1 (jI z2)) (x + 13 + 6 + 3 * p) 2 (jI z3)) (x + 13 + 6 + 3 * p) 3 (jI 0))) (x + 9) 4 (jI ((p : Int) + 1))) (x + 76) u V) (x + 64) 0 (jI 0)))) (x + 65) (290 + 81 * p) (jI z1)) (x + 65) (290 + 81 * p + 1) (jI z2)) (x + 65) (290 + 81 * p + 2) (jI z3)) (x + 65) (290 + 81 * p + 6) (jI 1)) (x + 65) 1 (jI ((p : Int) + 1))).1 (x + 9) 4 = jI ((p : Int) + 1) := by rw [gn _ (by omega) (by omega), gi_s]
  have gb9 : ∀ j, j ≠ 4 → (x_i (x_i (x_i (x_i (x_i (wr_ (x + 65) (290 + 81 * p + 29) (fun _ => -1) 52 (wr_ (x + 65) (290 + 81 * p) (fun _ => 0) 81 (x_i (x_l (x_i (wr_ (x + 13 + 6 + 3 * p + 2) 0 (fun _ => -1) 52 (x_i (x_i (x_i (x_i h (x + 13 + 6 + 3 * p) 0 (jI z1)) (x + 13 + 6 + 3 * p) 1 (jI z2)) (x + 13 + 6 + 3 * p) 2 (jI z3)) (x + 13 + 6 + 3 * p) 3 (jI 0))) (x + 9) 4 (jI ((p : Int) + 1))) (x + 76) u V) (x + 64) 0 (jI 0)))) (x + 65) (290 + 81 * p) (jI z1)) (x + 65) (290 + 81 * p + 1) (jI z2)) (x + 65) (290 + 81 * p + 2) (jI z3)) (x + 65) (290 + 81 * p + 6) (jI 1)) (x + 65) 1 (jI ((p : Int) + 1))).1 (x + 9) j = h.1 (x + 9) j := fun j hj => by rw [gn _ (by omega) (by omega), gi_k hj, wr_n (by omega), gi_n (by omega), gi_n (by omega), gi_n (by omega), gi_n (by omega)]
  have go : ∀ a, a ≠ x + 9 → a ≠ (x + 13 + 6 + 3 * p + 2) → a ≠ (x + 13 + 6 + 3 * p) → a ≠ x + 64 → a ≠ x + 65 → (x_i (x_i (x_i (x_i (x_i (wr_ (x + 65) (290 + 81 * p + 29) (fun _ => -1) 52 (wr_ (x + 65) (290 + 81 * p) (fun _ => 0) 81 (x_i (x_l (x_i (wr_ (x + 13 + 6 + 3 * p + 2) 0 (fun _ => -1) 52 (x_i (x_i (x_i (x_i h (x + 13 + 6 + 3 * p) 0 (jI z1)) (x + 13 + 6 + 3 * p) 1 (jI z2)) (x + 13 + 6 + 3 * p) 2 (jI z3)) (x + 13 + 6 + 3 * p) 3 (jI 0))) (x + 9) 4 (jI ((p : Int) + 1))) (x + 76) u V) (x + 64) 0 (jI 0)))) (x + 65) (290 + 81 * p) (jI z1)) (x + 65) (290 + 81 * p + 1) (jI z2)) (x + 65) (290 + 81 * p + 2) (jI z3)) (x + 65) (290 + 81 * p + 6) (jI 1)) (x + 65) 1 (jI ((p : Int) + 1))).1 a = h.1 a := fun a h1 h2 h5 h3 h4 => by
    rw [gn a h3 h4, gi_n h1, wr_n h2, gi_n h5, gi_n h5, gi_n h5, gi_n h5]
  have m64 : ∀ j, j ≠ 0 → (x_i (x_i (x_i (x_i (x_i (wr_ (x + 65) (290 + 81 * p + 29) (fun _ => -1) 52 (wr_ (x + 65) (290 + 81 * p) (fun _ => 0) 81 (x_i (x_l (x_i (wr_ (x + 13 + 6 + 3 * p + 2) 0 (fun _ => -1) 52 (x_i (x_i (x_i (x_i h (x + 13 + 6 + 3 * p) 0 (jI z1)) (x + 13 + 6 + 3 * p) 1 (jI z2)) (x + 13 + 6 + 3 * p) 2 (jI z3)) (x + 13 + 6 + 3 * p) 3 (jI 0))) (x + 9) 4 (jI ((p : Int) + 1))) (x + 76) u V) (x + 64) 0 (jI 0)))) (x + 65) (290 + 81 * p) (jI z1)) (x + 65) (290 + 81 * p + 1) (jI z2)) (x + 65) (290 + 81 * p + 2) (jI z3)) (x + 65) (290 + 81 * p + 6) (jI 1)) (x + 65) 1 (jI ((p : Int) + 1))).1 (x + 64) j = h.1 (x + 64) j := fun j hj => by
    rw [gi_n (by omega), gi_n (by omega), gi_n (by omega), gi_n (by omega), gi_n (by omega), wr_n (by omega), wr_n (by omega), gi_k hj, gl_, gi_n (by omega), wr_n (by omega), gi_n (by omega), gi_n (by omega), gi_n (by omega), gi_n (by omega)]
  have r : (x_i (x_i (x_i (x_i (x_i (wr_ (x + 65) (290 + 81 * p + 29) (fun _ => -1) 52 (wr_ (x + 65) (290 + 81 * p) (fun _ => 0) 81 (x_i (x_l (x_i (wr_ (x + 13 + 6 + 3 * p + 2) 0 (fun _ => -1) 52 (x_i (x_i (x_i (x_i h (x + 13 + 6 + 3 * p) 0 (jI z1)) (x + 13 + 6 + 3 * p) 1 (jI z2)) (x + 13 + 6 + 3 * p) 2 (jI z3)) (x + 13 + 6 + 3 * p) 3 (jI 0))) (x + 9) 4 (jI ((p : Int) + 1))) (x + 76) u V) (x + 64) 0 (jI 0)))) (x + 65) (290 + 81 * p) (jI z1)) (x + 65) (290 + 81 * p + 1) (jI z2)) (x + 65) (290 + 81 * p + 2) (jI z3)) (x + 65) (290 + 81 * p + 6) (jI 1)) (x + 65) 1 (jI ((p : Int) + 1))).2.2 = h.2.2 := by
    rw [gir, gir, gir, gir, gir, wr_2, wr_2, gir, glr, gir, wr_2]
    rfl
  generalize (x_i (x_i (x_i (x_i (x_i (wr_ (x + 65) (290 + 81 * p + 29) (fun _ => -1) 52 (wr_ (x + 65) (290 + 81 * p) (fun _ => 0) 81 (x_i (x_l (x_i (wr_ (x + 13 + 6 + 3 * p + 2) 0 (fun _ => -1) 52 (x_i (x_i (x_i (x_i h (x + 13 + 6 + 3 * p) 0 (jI z1)) (x + 13 + 6 + 3 * p) 1 (jI z2)) (x + 13 + 6 + 3 * p) 2 (jI z3)) (x + 13 + 6 + 3 * p) 3 (jI 0))) (x + 9) 4 (jI ((p : Int) + 1))) (x + 76) u V) (x + 64) 0 (jI 0)))) (x + 65) (290 + 81 * p) (jI z1)) (x + 65) (290 + 81 * p + 1) (jI z2)) (x + 65) (290 + 81 * p + 2) (jI z3)) (x + 65) (290 + 81 * p + 6) (jI 1)) (x + 65) 1 (jI ((p : Int) + 1))) = h' at v1 b0 b1 b2 b6 bs bz vo gn ga2 ga0 ga9 gb9 go m64 r ⊢
  have b3 := bz 3 (by omega) (by omega) (by omega)
  have n6 := vo 6 (by omega) (by omega)
  have n7 := vo 7 (by omega) (by omega)
  refine I.pu (p := p) h8 (Or.inr ⟨by omega, by omega⟩) ?_ ?_ ?_ (fun k h1 h2 h3 h4 => vo k h1 (by omega)) (by omega) (by omega) (fun j h1 h2 h3 => gb9 j h1) ?_ ?_ ?_ (fun a h1 h2 h3 h4 => go a h1 (by omega) (by omega) h3 h4) (m64 3 (by decide)) (m64 5 (by decide)) (m64 10 (by decide)) r
  · unfold WPk
    rw [b0, b1, b2, b3, b6]
    exact ⟨c1.1, c1.2, c2.1, c2.2, c3, c4, c5.1, c5.2, by omega, by omega, by omega, by omega, fun i hi => by rw [bs i hi]; omega, fun hq => absurd hq (by omega)⟩
  · unfold CPk
    rw [b0, b1, b2, b3, ga0]
    refine ⟨?_, ?_, ?_, ?_, fun i hi => by rw [bs i hi]; exact ga2 i hi, fun hq => absurd hq (by omega)⟩
    · rw [gi_k (by decide), gi_k (by decide), gi_k (by decide), gi_s]
    · rw [gi_k (by decide), gi_k (by decide), gi_s]
    · rw [gi_k (by decide), gi_s]
    · rw [gi_s, if_neg (by omega)]
  · have e3 : ∀ q, q < p → wd x h' (293 + 81 * q) = wd x h (293 + 81 * q) := fun q hq => vo _ (by omega) (by omega)
    have ep : wd x h' (293 + 81 * p) = 0 := by rw [show 293 + 81 * p = 290 + 81 * p + 3 by omega]; exact b3
    refine ⟨fun a b h1 h2 h3 h4 => ?_, ?_, fun q h1 h2 => ?_, u4, fun q h1 => ?_⟩
    · rw [v1] at h1 h2
      by_cases ea : a = p
      · subst ea; omega
      · by_cases eb : b = p
        · subst eb; omega
        · rw [e3 a (by omega)] at h3 h4
          rw [e3 b (by omega)] at h4
          exact u1 a b (by omega) (by omega) h3 h4
    · rw [n7, v1, show ((p : Int) + 1).toNat = p + 1 by omega, sm_s, ep, if_neg (by omega), u2, hp, Int.toNat_natCast, Int.add_zero]
      exact sm_c fun i hi => by rw [e3 i hi]
    · rw [v1] at h1
      by_cases eq : q = p
      · subst eq
        rw [show 298 + 81 * q = 290 + 81 * q + 8 by omega]
        exact bz 8 (by omega) (by omega) (by omega)
      · rw [e3 q (by omega)] at h2
        rw [vo (298 + 81 * q) (by omega) (by omega)]
        exact u3 q (by omega) h2
    · rw [v1] at h1
      by_cases eq : q = p
      · subst eq
        rw [show 298 + 81 * q = 290 + 81 * q + 8 by omega, bz 8 (by omega) (by omega) (by omega)]
        omega
      · rw [vo (298 + 81 * q) (by omega) (by omega)]
        exact u5 q (by omega)
  · rw [v1]; exact ga9
  · rw [n7, gb9 6 (by decide)]; exact e6
  · rw [n6, gb9 7 (by decide)]; exact e7
