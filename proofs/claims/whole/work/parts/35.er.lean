/-! ===== the same by the reference ===== -/
theorem su_num {x t b kk e i m l : Nat} {h : XH} (hb : b = 970 + 851 * t) (ht : t < 6) (hkk : kk + 5 ≤ 6927) (he : h.1 (x + 65) (kk + 4) = jI (e : Int)) (hi : i < e) (he4 : e ≤ 400) {z : Int} (hl : l < 17) (hs : h.1 (x + 65) (b + 51 + 2 * i) = jI 10) (hn : h.1 (x + 65) (b + 52 + 2 * i) = jI z) : f_X12_holdsLine_12 x (m + 1) h (jI (t : Int)) (jI (kk : Int)) (jI ((l : Nat) : Int)) (jI (i : Int)) = f_X12_holdsLine_12 x m (x_i h (x + 70) l (jI z)) (jI (t : Int)) (jI (kk : Int)) (jI ((l + 1 : Nat) : Int)) (jI ((i + 1 : Nat) : Int)) := by
  have f4 : jI (kk : Int) + 4 = jI ((kk + 4 : Nat) : Int) := by rw [show (4 : Int32) = jI 4 by decide, jI_add]; rfl
  have tx : f_X12_textAt h (jI (t : Int)) + 51 + 2 * jI (i : Int) = jI ((b + 51 + 2 * i : Nat) : Int) := by rw [f_X12_textAt, show (970 : Int32) = jI 970 by decide, show (851 : Int32) = jI 851 by decide, show (51 : Int32) = jI 51 by decide, l2_, jI_mul, jI_mul, jI_add, jI_add, jI_add]; congr 1; omega
  have tx1 : jI ((b + 51 + 2 * i : Nat) : Int) + 1 = jI ((b + 52 + 2 * i : Nat) : Int) := by rw [l1_, jI_add]; congr 1; omega
  have d0 : jI (i : Int) + 1 = jI ((i + 1 : Nat) : Int) := by rw [l1_, jI_add]; rfl
  have a1 : x_b (jI ((kk + 4 : Nat) : Int)) 6927 = true := jI_b (by omega) (by omega) (by omega)
  have a2 : (jI ((kk + 4 : Nat) : Int)).toNatClampNeg = kk + 4 := nat_ (by omega)
  have a3 : ¬ jI (e : Int) ≤ jI (i : Int) := of_eq_false (jleF (by omega) (by omega) (by omega))
  have a4 : x_b (jI ((b + 51 + 2 * i : Nat) : Int)) 6927 = true := jI_b (by omega) (by omega) (by omega)
  have a5 : (jI ((b + 51 + 2 * i : Nat) : Int)).toNatClampNeg = b + 51 + 2 * i := nat_ (by omega)
  have a6 : x_b (jI ((b + 52 + 2 * i : Nat) : Int)) 6927 = true := jI_b (by omega) (by omega) (by omega)
  have a7 : (jI ((b + 52 + 2 * i : Nat) : Int)).toNatClampNeg = b + 52 + 2 * i := nat_ (by omega)
  have a8 : x_b (jI (l : Int)) 400 = true := jI_b (by omega) (by omega) (by omega)
  have a9 : (jI (l : Int)).toNatClampNeg = l := nat_ (by omega)
  have d3 : jI (l : Int) + 1 = jI ((l + 1 : Nat) : Int) := by rw [l1_, jI_add]; rfl
  rw [f_X12_holdsLine_12]
  generalize f_X12_holdsLine_12 x m = kf
  rw [f4, if_pos a1, a2, he, if_neg a3, tx, if_pos a4, xl_, a5, hs]
  rw [if_neg (by decide : ¬ (10 : Int32) < jI 10), if_pos (by decide : jI 10 = (10 : Int32)), tx1, if_pos a6, a7, hn, f_X12_holdsLine_92, if_pos a8, xl_, a9, f_X12_holdsLine_264, d3, d0]
theorem su_fact {x t b kk e i m l : Nat} {h : XH} (hb : b = 970 + 851 * t) (ht : t < 6) (hkk : kk + 5 ≤ 6927) (he : h.1 (x + 65) (kk + 4) = jI (e : Int)) (hi : i < e) (he4 : e ≤ 400) {z : Int} {v : Int32} (hz : 0 ≤ z ∧ z < 10) (hl : l < 17) (hs : h.1 (x + 65) (b + 51 + 2 * i) = jI z) (hv : h.1 (x + 69) z.toNat = v) : f_X12_holdsLine_12 x (m + 1) h (jI (t : Int)) (jI (kk : Int)) (jI ((l : Nat) : Int)) (jI (i : Int)) = f_X12_holdsLine_12 x m (x_i h (x + 70) l (v)) (jI (t : Int)) (jI (kk : Int)) (jI ((l + 1 : Nat) : Int)) (jI ((i + 1 : Nat) : Int)) := by
  have f4 : jI (kk : Int) + 4 = jI ((kk + 4 : Nat) : Int) := by rw [show (4 : Int32) = jI 4 by decide, jI_add]; rfl
  have tx : f_X12_textAt h (jI (t : Int)) + 51 + 2 * jI (i : Int) = jI ((b + 51 + 2 * i : Nat) : Int) := by rw [f_X12_textAt, show (970 : Int32) = jI 970 by decide, show (851 : Int32) = jI 851 by decide, show (51 : Int32) = jI 51 by decide, l2_, jI_mul, jI_mul, jI_add, jI_add, jI_add]; congr 1; omega
  have tx1 : jI ((b + 51 + 2 * i : Nat) : Int) + 1 = jI ((b + 52 + 2 * i : Nat) : Int) := by rw [l1_, jI_add]; congr 1; omega
  have d0 : jI (i : Int) + 1 = jI ((i + 1 : Nat) : Int) := by rw [l1_, jI_add]; rfl
  have a1 : x_b (jI ((kk + 4 : Nat) : Int)) 6927 = true := jI_b (by omega) (by omega) (by omega)
  have a2 : (jI ((kk + 4 : Nat) : Int)).toNatClampNeg = kk + 4 := nat_ (by omega)
  have a3 : ¬ jI (e : Int) ≤ jI (i : Int) := of_eq_false (jleF (by omega) (by omega) (by omega))
  have a4 : x_b (jI ((b + 51 + 2 * i : Nat) : Int)) 6927 = true := jI_b (by omega) (by omega) (by omega)
  have a5 : (jI ((b + 51 + 2 * i : Nat) : Int)).toNatClampNeg = b + 51 + 2 * i := nat_ (by omega)
  have a8 : x_b (jI (l : Int)) 400 = true := jI_b (by omega) (by omega) (by omega)
  have a9 : (jI (l : Int)).toNatClampNeg = l := nat_ (by omega)
  have d3 : jI (l : Int) + 1 = jI ((l + 1 : Nat) : Int) := by rw [l1_, jI_add]; rfl
  have l10 : (10 : Int32) = jI 10 := by decide
  have q1 : ¬ (10 : Int32) < jI z := by rw [l10]; exact of_eq_false (jltF (by omega) (by omega) (by omega))
  have q2 : ¬ jI z = (10 : Int32) := by rw [l10]; exact of_eq_false (jeqF (by omega) (by omega) (by omega) (by omega) (by omega))
  have q3 : x_b (jI z) 10 = true := jI_b (by omega) (by omega) (by omega)
  have q4 : (jI z).toNatClampNeg = z.toNat := jI_nat (by omega) (by omega)
  rw [f_X12_holdsLine_12]
  generalize f_X12_holdsLine_12 x m = kf
  rw [f4, if_pos a1, a2, he, if_neg a3, tx, if_pos a4, xl_, a5, hs]
  rw [if_neg q1, if_neg q2, if_pos q3, q4, hv, f_X12_holdsLine_92, if_pos a8, xl_, a9, f_X12_holdsLine_264, d3, d0]
theorem su_not {x t b kk e i m l : Nat} {h : XH} (hb : b = 970 + 851 * t) (ht : t < 6) (hkk : kk + 5 ≤ 6927) (he : h.1 (x + 65) (kk + 4) = jI (e : Int)) (hi : i < e) (he4 : e ≤ 400) {v : Int32} (hl : l < 17) (hs : h.1 (x + 65) (b + 51 + 2 * i) = jI 14) (hv : h.1 (x + 70) l = v) : f_X12_holdsLine_12 x (m + 1) h (jI (t : Int)) (jI (kk : Int)) (jI ((l + 1 : Nat) : Int)) (jI (i : Int)) = f_X12_holdsLine_12 x m (x_i h (x + 70) l (1 - v)) (jI (t : Int)) (jI (kk : Int)) (jI ((l + 1 : Nat) : Int)) (jI ((i + 1 : Nat) : Int)) := by
  have f4 : jI (kk : Int) + 4 = jI ((kk + 4 : Nat) : Int) := by rw [show (4 : Int32) = jI 4 by decide, jI_add]; rfl
  have tx : f_X12_textAt h (jI (t : Int)) + 51 + 2 * jI (i : Int) = jI ((b + 51 + 2 * i : Nat) : Int) := by rw [f_X12_textAt, show (970 : Int32) = jI 970 by decide, show (851 : Int32) = jI 851 by decide, show (51 : Int32) = jI 51 by decide, l2_, jI_mul, jI_mul, jI_add, jI_add, jI_add]; congr 1; omega
  have tx1 : jI ((b + 51 + 2 * i : Nat) : Int) + 1 = jI ((b + 52 + 2 * i : Nat) : Int) := by rw [l1_, jI_add]; congr 1; omega
  have d0 : jI (i : Int) + 1 = jI ((i + 1 : Nat) : Int) := by rw [l1_, jI_add]; rfl
  have a1 : x_b (jI ((kk + 4 : Nat) : Int)) 6927 = true := jI_b (by omega) (by omega) (by omega)
  have a2 : (jI ((kk + 4 : Nat) : Int)).toNatClampNeg = kk + 4 := nat_ (by omega)
  have a3 : ¬ jI (e : Int) ≤ jI (i : Int) := of_eq_false (jleF (by omega) (by omega) (by omega))
  have a4 : x_b (jI ((b + 51 + 2 * i : Nat) : Int)) 6927 = true := jI_b (by omega) (by omega) (by omega)
  have a5 : (jI ((b + 51 + 2 * i : Nat) : Int)).toNatClampNeg = b + 51 + 2 * i := nat_ (by omega)
  have a8 : x_b (jI (l : Int)) 400 = true := jI_b (by omega) (by omega) (by omega)
  have a9 : (jI (l : Int)).toNatClampNeg = l := nat_ (by omega)
  have d2 : jI ((l + 1 : Nat) : Int) - 1 = jI (l : Int) := by rw [l1_, jI_sub]; congr 1; omega
  rw [f_X12_holdsLine_12]
  generalize f_X12_holdsLine_12 x m = kf
  rw [f4, if_pos a1, a2, he, if_neg a3, tx, if_pos a4, xl_, a5, hs]
  rw [if_pos (by decide : (10 : Int32) < jI 14), if_pos (by decide : jI 14 = (14 : Int32)), d2, if_pos a8, if_pos a8, xl_, a9, hv, f_X12_holdsLine_264, d0]
theorem su_add {x t b kk e i m l : Nat} {h : XH} (hb : b = 970 + 851 * t) (ht : t < 6) (hkk : kk + 5 ≤ 6927) (he : h.1 (x + 65) (kk + 4) = jI (e : Int)) (hi : i < e) (he4 : e ≤ 400) {u v : Int32} (hl : l < 16) (hs : h.1 (x + 65) (b + 51 + 2 * i) = jI 11) (hv : h.1 (x + 70) (l + 1) = v) (hu : h.1 (x + 70) l = u) : f_X12_holdsLine_12 x (m + 1) h (jI (t : Int)) (jI (kk : Int)) (jI ((l + 1 + 1 : Nat) : Int)) (jI (i : Int)) = f_X12_holdsLine_12 x m (x_i h (x + 70) l (u + v)) (jI (t : Int)) (jI (kk : Int)) (jI ((l + 1 : Nat) : Int)) (jI ((i + 1 : Nat) : Int)) := by
  have f4 : jI (kk : Int) + 4 = jI ((kk + 4 : Nat) : Int) := by rw [show (4 : Int32) = jI 4 by decide, jI_add]; rfl
  have tx : f_X12_textAt h (jI (t : Int)) + 51 + 2 * jI (i : Int) = jI ((b + 51 + 2 * i : Nat) : Int) := by rw [f_X12_textAt, show (970 : Int32) = jI 970 by decide, show (851 : Int32) = jI 851 by decide, show (51 : Int32) = jI 51 by decide, l2_, jI_mul, jI_mul, jI_add, jI_add, jI_add]; congr 1; omega
  have tx1 : jI ((b + 51 + 2 * i : Nat) : Int) + 1 = jI ((b + 52 + 2 * i : Nat) : Int) := by rw [l1_, jI_add]; congr 1; omega
  have d0 : jI (i : Int) + 1 = jI ((i + 1 : Nat) : Int) := by rw [l1_, jI_add]; rfl
  have a1 : x_b (jI ((kk + 4 : Nat) : Int)) 6927 = true := jI_b (by omega) (by omega) (by omega)
  have a2 : (jI ((kk + 4 : Nat) : Int)).toNatClampNeg = kk + 4 := nat_ (by omega)
  have a3 : ¬ jI (e : Int) ≤ jI (i : Int) := of_eq_false (jleF (by omega) (by omega) (by omega))
  have a4 : x_b (jI ((b + 51 + 2 * i : Nat) : Int)) 6927 = true := jI_b (by omega) (by omega) (by omega)
  have a5 : (jI ((b + 51 + 2 * i : Nat) : Int)).toNatClampNeg = b + 51 + 2 * i := nat_ (by omega)
  have a8 : x_b (jI (l : Int)) 400 = true := jI_b (by omega) (by omega) (by omega)
  have a9 : (jI (l : Int)).toNatClampNeg = l := nat_ (by omega)
  have b8 : x_b (jI ((l + 1 : Nat) : Int)) 400 = true := jI_b (by omega) (by omega) (by omega)
  have b9 : (jI ((l + 1 : Nat) : Int)).toNatClampNeg = l + 1 := nat_ (by omega)
  have d1 : jI ((l + 1 + 1 : Nat) : Int) + -1 = jI ((l + 1 : Nat) : Int) := by rw [m1_, jI_add]; congr 1; omega
  have d2 : jI ((l + 1 : Nat) : Int) - 1 = jI (l : Int) := by rw [l1_, jI_sub]; congr 1; omega
  rw [f_X12_holdsLine_12]
  generalize f_X12_holdsLine_12 x m = kf
  rw [f4, if_pos a1, a2, he, if_neg a3, tx, if_pos a4, xl_, a5, hs]
  rw [if_pos (by decide : (10 : Int32) < jI 11), if_neg (by decide : ¬ jI 11 = (14 : Int32)), d1, d2, if_pos a8, xl_, a9, hu, if_pos b8, xl_, b9, hv, xl_, if_pos a8, xl_]
  rw [if_pos (by decide : jI 11 = (11 : Int32)), f_X12_holdsLine_264, d0]
theorem su_lt {x t b kk e i m l : Nat} {h : XH} (hb : b = 970 + 851 * t) (ht : t < 6) (hkk : kk + 5 ≤ 6927) (he : h.1 (x + 65) (kk + 4) = jI (e : Int)) (hi : i < e) (he4 : e ≤ 400) {u v : Int32} (hl : l < 16) (hs : h.1 (x + 65) (b + 51 + 2 * i) = jI 12) (hv : h.1 (x + 70) (l + 1) = v) (hu : h.1 (x + 70) l = u) : f_X12_holdsLine_12 x (m + 1) h (jI (t : Int)) (jI (kk : Int)) (jI ((l + 1 + 1 : Nat) : Int)) (jI (i : Int)) = f_X12_holdsLine_12 x m (x_i h (x + 70) l (if v ≤ u then 0 else 1)) (jI (t : Int)) (jI (kk : Int)) (jI ((l + 1 : Nat) : Int)) (jI ((i + 1 : Nat) : Int)) := by
  have f4 : jI (kk : Int) + 4 = jI ((kk + 4 : Nat) : Int) := by rw [show (4 : Int32) = jI 4 by decide, jI_add]; rfl
  have tx : f_X12_textAt h (jI (t : Int)) + 51 + 2 * jI (i : Int) = jI ((b + 51 + 2 * i : Nat) : Int) := by rw [f_X12_textAt, show (970 : Int32) = jI 970 by decide, show (851 : Int32) = jI 851 by decide, show (51 : Int32) = jI 51 by decide, l2_, jI_mul, jI_mul, jI_add, jI_add, jI_add]; congr 1; omega
  have tx1 : jI ((b + 51 + 2 * i : Nat) : Int) + 1 = jI ((b + 52 + 2 * i : Nat) : Int) := by rw [l1_, jI_add]; congr 1; omega
  have d0 : jI (i : Int) + 1 = jI ((i + 1 : Nat) : Int) := by rw [l1_, jI_add]; rfl
  have a1 : x_b (jI ((kk + 4 : Nat) : Int)) 6927 = true := jI_b (by omega) (by omega) (by omega)
  have a2 : (jI ((kk + 4 : Nat) : Int)).toNatClampNeg = kk + 4 := nat_ (by omega)
  have a3 : ¬ jI (e : Int) ≤ jI (i : Int) := of_eq_false (jleF (by omega) (by omega) (by omega))
  have a4 : x_b (jI ((b + 51 + 2 * i : Nat) : Int)) 6927 = true := jI_b (by omega) (by omega) (by omega)
  have a5 : (jI ((b + 51 + 2 * i : Nat) : Int)).toNatClampNeg = b + 51 + 2 * i := nat_ (by omega)
  have a8 : x_b (jI (l : Int)) 400 = true := jI_b (by omega) (by omega) (by omega)
  have a9 : (jI (l : Int)).toNatClampNeg = l := nat_ (by omega)
  have b8 : x_b (jI ((l + 1 : Nat) : Int)) 400 = true := jI_b (by omega) (by omega) (by omega)
  have b9 : (jI ((l + 1 : Nat) : Int)).toNatClampNeg = l + 1 := nat_ (by omega)
  have d1 : jI ((l + 1 + 1 : Nat) : Int) + -1 = jI ((l + 1 : Nat) : Int) := by rw [m1_, jI_add]; congr 1; omega
  have d2 : jI ((l + 1 : Nat) : Int) - 1 = jI (l : Int) := by rw [l1_, jI_sub]; congr 1; omega
  rw [f_X12_holdsLine_12]
  generalize f_X12_holdsLine_12 x m = kf
  rw [f4, if_pos a1, a2, he, if_neg a3, tx, if_pos a4, xl_, a5, hs]
  rw [if_pos (by decide : (10 : Int32) < jI 12), if_neg (by decide : ¬ jI 12 = (14 : Int32)), d1, d2, if_pos a8, xl_, a9, hu, if_pos b8, xl_, b9, hv, xl_, if_pos a8, xl_]
  rw [if_neg (by decide : ¬ jI 12 = (11 : Int32))]
  rw [if_pos (by decide : jI 12 = (12 : Int32))]
  have ee : (if ((if v ≤ u then 0 else 1) : Int32) = 0 then (0 : Int32) else 1) = if v ≤ u then 0 else 1 := by by_cases cc : v ≤ u <;> simp [cc]
  rw [ee, f_X12_holdsLine_264, d0]
theorem su_gt {x t b kk e i m l : Nat} {h : XH} (hb : b = 970 + 851 * t) (ht : t < 6) (hkk : kk + 5 ≤ 6927) (he : h.1 (x + 65) (kk + 4) = jI (e : Int)) (hi : i < e) (he4 : e ≤ 400) {u v : Int32} (hl : l < 16) (hs : h.1 (x + 65) (b + 51 + 2 * i) = jI 13) (hv : h.1 (x + 70) (l + 1) = v) (hu : h.1 (x + 70) l = u) : f_X12_holdsLine_12 x (m + 1) h (jI (t : Int)) (jI (kk : Int)) (jI ((l + 1 + 1 : Nat) : Int)) (jI (i : Int)) = f_X12_holdsLine_12 x m (x_i h (x + 70) l (if u ≤ v then 0 else 1)) (jI (t : Int)) (jI (kk : Int)) (jI ((l + 1 : Nat) : Int)) (jI ((i + 1 : Nat) : Int)) := by
  have f4 : jI (kk : Int) + 4 = jI ((kk + 4 : Nat) : Int) := by rw [show (4 : Int32) = jI 4 by decide, jI_add]; rfl
  have tx : f_X12_textAt h (jI (t : Int)) + 51 + 2 * jI (i : Int) = jI ((b + 51 + 2 * i : Nat) : Int) := by rw [f_X12_textAt, show (970 : Int32) = jI 970 by decide, show (851 : Int32) = jI 851 by decide, show (51 : Int32) = jI 51 by decide, l2_, jI_mul, jI_mul, jI_add, jI_add, jI_add]; congr 1; omega
  have tx1 : jI ((b + 51 + 2 * i : Nat) : Int) + 1 = jI ((b + 52 + 2 * i : Nat) : Int) := by rw [l1_, jI_add]; congr 1; omega
  have d0 : jI (i : Int) + 1 = jI ((i + 1 : Nat) : Int) := by rw [l1_, jI_add]; rfl
  have a1 : x_b (jI ((kk + 4 : Nat) : Int)) 6927 = true := jI_b (by omega) (by omega) (by omega)
  have a2 : (jI ((kk + 4 : Nat) : Int)).toNatClampNeg = kk + 4 := nat_ (by omega)
  have a3 : ¬ jI (e : Int) ≤ jI (i : Int) := of_eq_false (jleF (by omega) (by omega) (by omega))
  have a4 : x_b (jI ((b + 51 + 2 * i : Nat) : Int)) 6927 = true := jI_b (by omega) (by omega) (by omega)
  have a5 : (jI ((b + 51 + 2 * i : Nat) : Int)).toNatClampNeg = b + 51 + 2 * i := nat_ (by omega)
  have a8 : x_b (jI (l : Int)) 400 = true := jI_b (by omega) (by omega) (by omega)
  have a9 : (jI (l : Int)).toNatClampNeg = l := nat_ (by omega)
  have b8 : x_b (jI ((l + 1 : Nat) : Int)) 400 = true := jI_b (by omega) (by omega) (by omega)
  have b9 : (jI ((l + 1 : Nat) : Int)).toNatClampNeg = l + 1 := nat_ (by omega)
  have d1 : jI ((l + 1 + 1 : Nat) : Int) + -1 = jI ((l + 1 : Nat) : Int) := by rw [m1_, jI_add]; congr 1; omega
  have d2 : jI ((l + 1 : Nat) : Int) - 1 = jI (l : Int) := by rw [l1_, jI_sub]; congr 1; omega
  rw [f_X12_holdsLine_12]
  generalize f_X12_holdsLine_12 x m = kf
  rw [f4, if_pos a1, a2, he, if_neg a3, tx, if_pos a4, xl_, a5, hs]
  rw [if_pos (by decide : (10 : Int32) < jI 13), if_neg (by decide : ¬ jI 13 = (14 : Int32)), d1, d2, if_pos a8, xl_, a9, hu, if_pos b8, xl_, b9, hv, xl_, if_pos a8, xl_]
  rw [if_neg (by decide : ¬ jI 13 = (11 : Int32))]
  rw [if_neg (by decide : ¬ jI 13 = (12 : Int32))]
  rw [if_pos (by decide : jI 13 = (13 : Int32))]
  have ee : (if ((if u ≤ v then 0 else 1) : Int32) = 0 then (0 : Int32) else 1) = if u ≤ v then 0 else 1 := by by_cases cc : u ≤ v <;> simp [cc]
  rw [ee, f_X12_holdsLine_264, d0]
theorem su_and {x t b kk e i m l : Nat} {h : XH} (hb : b = 970 + 851 * t) (ht : t < 6) (hkk : kk + 5 ≤ 6927) (he : h.1 (x + 65) (kk + 4) = jI (e : Int)) (hi : i < e) (he4 : e ≤ 400) {u v : Int32} (hl : l < 16) (hs : h.1 (x + 65) (b + 51 + 2 * i) = jI 15) (hv : h.1 (x + 70) (l + 1) = v) (hu : h.1 (x + 70) l = u) : f_X12_holdsLine_12 x (m + 1) h (jI (t : Int)) (jI (kk : Int)) (jI ((l + 1 + 1 : Nat) : Int)) (jI (i : Int)) = f_X12_holdsLine_12 x m (x_i h (x + 70) l (if u + v = 2 then 1 else 0)) (jI (t : Int)) (jI (kk : Int)) (jI ((l + 1 : Nat) : Int)) (jI ((i + 1 : Nat) : Int)) := by
  have f4 : jI (kk : Int) + 4 = jI ((kk + 4 : Nat) : Int) := by rw [show (4 : Int32) = jI 4 by decide, jI_add]; rfl
  have tx : f_X12_textAt h (jI (t : Int)) + 51 + 2 * jI (i : Int) = jI ((b + 51 + 2 * i : Nat) : Int) := by rw [f_X12_textAt, show (970 : Int32) = jI 970 by decide, show (851 : Int32) = jI 851 by decide, show (51 : Int32) = jI 51 by decide, l2_, jI_mul, jI_mul, jI_add, jI_add, jI_add]; congr 1; omega
  have tx1 : jI ((b + 51 + 2 * i : Nat) : Int) + 1 = jI ((b + 52 + 2 * i : Nat) : Int) := by rw [l1_, jI_add]; congr 1; omega
  have d0 : jI (i : Int) + 1 = jI ((i + 1 : Nat) : Int) := by rw [l1_, jI_add]; rfl
  have a1 : x_b (jI ((kk + 4 : Nat) : Int)) 6927 = true := jI_b (by omega) (by omega) (by omega)
  have a2 : (jI ((kk + 4 : Nat) : Int)).toNatClampNeg = kk + 4 := nat_ (by omega)
  have a3 : ¬ jI (e : Int) ≤ jI (i : Int) := of_eq_false (jleF (by omega) (by omega) (by omega))
  have a4 : x_b (jI ((b + 51 + 2 * i : Nat) : Int)) 6927 = true := jI_b (by omega) (by omega) (by omega)
  have a5 : (jI ((b + 51 + 2 * i : Nat) : Int)).toNatClampNeg = b + 51 + 2 * i := nat_ (by omega)
  have a8 : x_b (jI (l : Int)) 400 = true := jI_b (by omega) (by omega) (by omega)
  have a9 : (jI (l : Int)).toNatClampNeg = l := nat_ (by omega)
  have b8 : x_b (jI ((l + 1 : Nat) : Int)) 400 = true := jI_b (by omega) (by omega) (by omega)
  have b9 : (jI ((l + 1 : Nat) : Int)).toNatClampNeg = l + 1 := nat_ (by omega)
  have d1 : jI ((l + 1 + 1 : Nat) : Int) + -1 = jI ((l + 1 : Nat) : Int) := by rw [m1_, jI_add]; congr 1; omega
  have d2 : jI ((l + 1 : Nat) : Int) - 1 = jI (l : Int) := by rw [l1_, jI_sub]; congr 1; omega
  rw [f_X12_holdsLine_12]
  generalize f_X12_holdsLine_12 x m = kf
  rw [f4, if_pos a1, a2, he, if_neg a3, tx, if_pos a4, xl_, a5, hs]
  rw [if_pos (by decide : (10 : Int32) < jI 15), if_neg (by decide : ¬ jI 15 = (14 : Int32)), d1, d2, if_pos a8, xl_, a9, hu, if_pos b8, xl_, b9, hv, xl_, if_pos a8, xl_]
  rw [if_neg (by decide : ¬ jI 15 = (11 : Int32))]
  rw [if_neg (by decide : ¬ jI 15 = (12 : Int32))]
  rw [if_neg (by decide : ¬ jI 15 = (13 : Int32))]
  rw [if_pos (by decide : jI 15 = (15 : Int32))]
  have ee : (if ((if u + v = 2 then 1 else 0) : Int32) = 0 then (0 : Int32) else 1) = if u + v = 2 then 1 else 0 := by by_cases cc : u + v = 2 <;> simp [cc]
  rw [ee, f_X12_holdsLine_264, d0]
theorem su_or {x t b kk e i m l : Nat} {h : XH} (hb : b = 970 + 851 * t) (ht : t < 6) (hkk : kk + 5 ≤ 6927) (he : h.1 (x + 65) (kk + 4) = jI (e : Int)) (hi : i < e) (he4 : e ≤ 400) {u v : Int32} (hl : l < 16) (hs : h.1 (x + 65) (b + 51 + 2 * i) = jI 16) (hv : h.1 (x + 70) (l + 1) = v) (hu : h.1 (x + 70) l = u) : f_X12_holdsLine_12 x (m + 1) h (jI (t : Int)) (jI (kk : Int)) (jI ((l + 1 + 1 : Nat) : Int)) (jI (i : Int)) = f_X12_holdsLine_12 x m (x_i h (x + 70) l (if u + v ≤ 0 then 0 else 1)) (jI (t : Int)) (jI (kk : Int)) (jI ((l + 1 : Nat) : Int)) (jI ((i + 1 : Nat) : Int)) := by
  have f4 : jI (kk : Int) + 4 = jI ((kk + 4 : Nat) : Int) := by rw [show (4 : Int32) = jI 4 by decide, jI_add]; rfl
  have tx : f_X12_textAt h (jI (t : Int)) + 51 + 2 * jI (i : Int) = jI ((b + 51 + 2 * i : Nat) : Int) := by rw [f_X12_textAt, show (970 : Int32) = jI 970 by decide, show (851 : Int32) = jI 851 by decide, show (51 : Int32) = jI 51 by decide, l2_, jI_mul, jI_mul, jI_add, jI_add, jI_add]; congr 1; omega
  have tx1 : jI ((b + 51 + 2 * i : Nat) : Int) + 1 = jI ((b + 52 + 2 * i : Nat) : Int) := by rw [l1_, jI_add]; congr 1; omega
  have d0 : jI (i : Int) + 1 = jI ((i + 1 : Nat) : Int) := by rw [l1_, jI_add]; rfl
  have a1 : x_b (jI ((kk + 4 : Nat) : Int)) 6927 = true := jI_b (by omega) (by omega) (by omega)
  have a2 : (jI ((kk + 4 : Nat) : Int)).toNatClampNeg = kk + 4 := nat_ (by omega)
  have a3 : ¬ jI (e : Int) ≤ jI (i : Int) := of_eq_false (jleF (by omega) (by omega) (by omega))
  have a4 : x_b (jI ((b + 51 + 2 * i : Nat) : Int)) 6927 = true := jI_b (by omega) (by omega) (by omega)
  have a5 : (jI ((b + 51 + 2 * i : Nat) : Int)).toNatClampNeg = b + 51 + 2 * i := nat_ (by omega)
  have a8 : x_b (jI (l : Int)) 400 = true := jI_b (by omega) (by omega) (by omega)
  have a9 : (jI (l : Int)).toNatClampNeg = l := nat_ (by omega)
  have b8 : x_b (jI ((l + 1 : Nat) : Int)) 400 = true := jI_b (by omega) (by omega) (by omega)
  have b9 : (jI ((l + 1 : Nat) : Int)).toNatClampNeg = l + 1 := nat_ (by omega)
  have d1 : jI ((l + 1 + 1 : Nat) : Int) + -1 = jI ((l + 1 : Nat) : Int) := by rw [m1_, jI_add]; congr 1; omega
  have d2 : jI ((l + 1 : Nat) : Int) - 1 = jI (l : Int) := by rw [l1_, jI_sub]; congr 1; omega
  rw [f_X12_holdsLine_12]
  generalize f_X12_holdsLine_12 x m = kf
  rw [f4, if_pos a1, a2, he, if_neg a3, tx, if_pos a4, xl_, a5, hs]
  rw [if_pos (by decide : (10 : Int32) < jI 16), if_neg (by decide : ¬ jI 16 = (14 : Int32)), d1, d2, if_pos a8, xl_, a9, hu, if_pos b8, xl_, b9, hv, xl_, if_pos a8, xl_]
  rw [if_neg (by decide : ¬ jI 16 = (11 : Int32))]
  rw [if_neg (by decide : ¬ jI 16 = (12 : Int32))]
  rw [if_neg (by decide : ¬ jI 16 = (13 : Int32))]
  rw [if_neg (by decide : ¬ jI 16 = (15 : Int32))]
  have ee : (if ((if u + v ≤ 0 then 0 else 1) : Int32) = 0 then (0 : Int32) else 1) = if u + v ≤ 0 then 0 else 1 := by by_cases cc : u + v ≤ 0 <;> simp [cc]
  rw [ee, f_X12_holdsLine_264, d0]
theorem r_met {x t b kk e : Nat} {h0 : XH} {w : Nat → Int} {ru : Bool} {F : Int → Int32} (hb : b = 970 + 851 * t) (ht6 : t < 6) (hkk : kk + 5 ≤ 6927) (hw : ∀ q, h0.1 (x + 65) q = jI (w q)) (he : w (kk + 4) = e) (he4 : e ≤ 400) (hF : ∀ s : Int, 0 ≤ s → s < 10 → (ru = true → s = 8 ∨ s < 4) → h0.1 (x + 69) s.toNat = F s) (hG : (F 8 = 0 ∨ F 8 = 1) ∧ (ru = false → F 9 = 0 ∨ F 9 = 1)) :
    ∀ (k i m : Nat), i + k = e → k < m → ∀ (h1 : XH) (V : List Int32) (T : List Bool), (∀ a, a ≠ x + 70 → h1.1 a = h0.1 a) → h1.2 = h0.2 → sk_ h1 (x + 70) V → ty_ T V → T.length ≤ 17 → tr_ w b ru k i T = some [true] →
      ∃ h2, f_X12_holdsLine_12 x m h1 (jI (t : Int)) (jI (kk : Int)) (jI (V.length : Int)) (jI (i : Int)) = some (mt_ (er_ w b F k i V), h2) ∧ (∀ a, a ≠ x + 70 → h2.1 a = h0.1 a) ∧ h2.2 = h0.2 := by
  intro k
  induction k with
  | zero =>
    intro i m hi hm h1 V T s1 s2 hs ht hT htr
    obtain ⟨m, rfl⟩ : ∃ m', m = m' + 1 := ⟨m - 1, by omega⟩
    cases htr
    match V, ht with
    | [v], ht =>
      have hs0 : h1.1 (x + 70) 0 = v := hs.1
      have hv := ht.1 rfl
      refine ⟨h1, ?_, s1, s2⟩
      have l1 : (([v] : List Int32).length : Int) = 1 := rfl
      have t4 : ((kk : Int) + 4).toNat = kk + 4 := by omega
      have he1 : h1.1 (x + 65) (kk + 4) = jI (e : Int) := by rw [s1 _ (by omega), hw, he]
      have f4 : jI (kk : Int) + 4 = jI ((kk + 4 : Nat) : Int) := by rw [show (4 : Int32) = jI 4 by decide, jI_add]; rfl
      have a1 : x_b (jI ((kk + 4 : Nat) : Int)) 6927 = true := jI_b (by omega) (by omega) (by omega)
      have a2 : (jI ((kk + 4 : Nat) : Int)).toNatClampNeg = kk + 4 := nat_ (by omega)
      have a3 : jI (e : Int) ≤ jI (i : Int) := of_eq_true (jleT (by omega) (by omega) (by omega))
      have z0 : (0 : Int32).toNatClampNeg = 0 := by decide
      rw [l1, f_X12_holdsLine_12]
      rw [f4, if_pos a1, a2, he1, if_pos a3, if_neg (by decide : ¬ jI 1 = (0 : Int32)), if_pos (by decide : x_b 0 400 = true), z0, hs0]
      simp only [er_, mt_]
      rcases hv with hv | hv <;> rw [hv] <;> rfl
  | succ k ih =>
    intro i m hi hm h1 V T s1 s2 hs ht hT htr0
    obtain ⟨m, rfl⟩ : ∃ m', m = m' + 1 := ⟨m - 1, by omega⟩
    have hl := ty_l ht
    have he1 : h1.1 (x + 65) (kk + 4) = jI (e : Int) := by rw [s1 _ (by omega), hw, he]
    have hc1 : h1.1 (x + 65) (b + 51 + 2 * i) = jI (w (b + 51 + 2 * i)) := by rw [s1 _ (by omega), hw]
    have hc2 : h1.1 (x + 65) (b + 52 + 2 * i) = jI (w (b + 52 + 2 * i)) := by rw [s1 _ (by omega), hw]
    have htr1 : Option.bind (ts_ ru (w (b + 51 + 2 * i)) (w (b + 52 + 2 * i)) T) (fun T' => tr_ w b ru k (i + 1) T') = some [true] := htr0
    have her : er_ w b F (k + 1) i V = er_ w b F k (i + 1) (es_ F (w (b + 51 + 2 * i)) (w (b + 52 + 2 * i)) V) := rfl
    rw [her]
    clear her htr0
    generalize w (b + 51 + 2 * i) = s at hc1 htr1 ⊢
    generalize w (b + 52 + 2 * i) = n at hc2 htr1 ⊢
    have nx := ih (i + 1) m (by omega) (by omega)
    have sx : ∀ (j : Nat) (v : Int32), ∀ a, a ≠ x + 70 → (x_i h1 (x + 70) j v).1 a = h0.1 a := fun j v a ha => by rw [x_i_ne ha]; exact s1 a ha
    cases hts : ts_ ru s n T with
    | none => rw [hts] at htr1; cases htr1
    | some T' =>
      rw [hts] at htr1
      have htr2 : tr_ w b ru k (i + 1) T' = some [true] := htr1
      clear htr1
      rcases ts_k hts with ⟨q1, q2, q3, q4, q5⟩ | ⟨q1, q2, q3, q4⟩ | ⟨q1, q2, q3⟩ | ⟨q1, T0, q2, q3⟩ | ⟨q1, T0, q2, q3⟩ | ⟨q1, T0, q2, q3⟩ | ⟨q1, T0, q2, q3⟩
      · have hes : es_ F s n V = jI n :: V := by rw [q1]; simp [es_]
        rw [q1] at hc1
        rw [q5] at htr2
        rw [hes, su_num hb ht6 hkk he1 (by omega) he4 (by omega) hc1 hc2]
        exact nx _ (jI n :: V) (false :: T) (sx _ _) s2 ⟨gi_s, sk_u (Nat.le_refl _) hs⟩ ⟨(fun h => nomatch h), ht⟩ (by rw [List.length_cons]; omega) htr2
      · have h8 : s < 8 := by cases ru <;> simp at q2 <;> omega
        have hes : es_ F s n V = F s :: V := by
          unfold es_
          rw [if_neg (by omega), if_pos (by omega)]
        rw [q4] at htr2
        have hfs := hF s (by omega) (by omega) (fun hru => Or.inr (by rw [hru] at q2; simpa using q2))
        rw [← s1 (x + 69) (by omega)] at hfs
        rw [hes, su_fact hb ht6 hkk he1 (by omega) he4 ⟨q1, by omega⟩ (by omega) hc1 hfs]
        exact nx _ (F s :: V) (false :: T) (sx _ _) s2 ⟨gi_s, sk_u (Nat.le_refl _) hs⟩ ⟨(fun h => nomatch h), ht⟩ (by rw [List.length_cons]; omega) htr2
      · have hq : s = 8 ∨ s = 9 := by rcases q1 with q1 | q1 <;> omega
        have hfs := hF s (by omega) (by omega) (fun hru => Or.inl (by rcases q1 with q1 | q1; exact q1; rw [hru] at q1; cases q1.2))
        rw [← s1 (x + 69) (by omega)] at hfs
        have hty : F s = 0 ∨ F s = 1 := by
          rcases q1 with q1 | q1
          · rw [q1]; exact hG.1
          · rw [q1.1]; exact hG.2 q1.2
        have hes : es_ F s n V = F s :: V := by
          unfold es_
          rw [if_neg (by omega), if_pos (by omega)]
        rw [q3] at htr2
        rw [hes, su_fact hb ht6 hkk he1 (by omega) he4 (by omega) (by omega) hc1 hfs]
        exact nx _ (F s :: V) (true :: T) (sx _ _) s2 ⟨gi_s, sk_u (Nat.le_refl _) hs⟩ ⟨fun _ => hty, ht⟩ (by rw [List.length_cons]; omega) htr2
      · rw [q2] at ht hT
        match V, hs, ht, hl with
        | v :: V, hs, ht, hl =>
          have hes : es_ F s n (v :: V) = (1 - v) :: V := by rw [q1]; cases V <;> simp [es_]
          have hT : T0.length + 1 ≤ 17 := hT
          have hl2 := ty_l ht.2
          rw [q1] at hc1
          rw [q3] at htr2
          rw [hes, List.length_cons, su_not (l := V.length) hb ht6 hkk he1 (by omega) he4 (by omega) hc1 hs.1]
          exact nx _ ((1 - v) :: V) (true :: T0) (sx _ _) s2 ⟨gi_s, sk_u (Nat.le_refl _) hs.2⟩ ⟨fun _ => bo_n (ht.1 rfl), ht.2⟩ hT htr2
      · rw [q2] at ht hT
        match V, hs, ht, hl with
        | v :: u :: V, hs, ht, hl =>
          have hT : T0.length + 1 + 1 ≤ 17 := hT
          have hl2 := ty_l ht.2.2
          rw [q3] at htr2
          have hes : es_ F s n (v :: u :: V) = (u + v) :: V := by rw [q1]; simp [es_]
          rw [q1] at hc1
          rw [hes, List.length_cons, List.length_cons, su_add (l := V.length) hb ht6 hkk he1 (by omega) he4 (by omega) hc1 hs.1 hs.2.1]
          exact nx _ ((u + v) :: V) (false :: T0) (sx _ _) s2 ⟨gi_s, sk_u (Nat.le_refl _) hs.2.2⟩ ⟨(fun h => nomatch h), ht.2.2⟩ (by rw [List.length_cons]; omega) htr2
      · rw [q2] at ht hT
        match V, hs, ht, hl with
        | v :: u :: V, hs, ht, hl =>
          have hT : T0.length + 1 + 1 ≤ 17 := hT
          have hl2 := ty_l ht.2.2
          rw [q3] at htr2
          rcases q1 with q1 | q1
          · skip
            have hes : es_ F s n (v :: u :: V) = (if v ≤ u then 0 else 1) :: V := by rw [q1]; simp [es_]
            rw [q1] at hc1
            rw [hes, List.length_cons, List.length_cons, su_lt (l := V.length) hb ht6 hkk he1 (by omega) he4 (by omega) hc1 hs.1 hs.2.1]
            exact nx _ ((if v ≤ u then 0 else 1) :: V) (true :: T0) (sx _ _) s2 ⟨gi_s, sk_u (Nat.le_refl _) hs.2.2⟩ ⟨fun _ => bo_i (Or.inl rfl) (Or.inr rfl), ht.2.2⟩ (by rw [List.length_cons]; omega) htr2
          · skip
            have hes : es_ F s n (v :: u :: V) = (if u ≤ v then 0 else 1) :: V := by rw [q1]; simp [es_]
            rw [q1] at hc1
            rw [hes, List.length_cons, List.length_cons, su_gt (l := V.length) hb ht6 hkk he1 (by omega) he4 (by omega) hc1 hs.1 hs.2.1]
            exact nx _ ((if u ≤ v then 0 else 1) :: V) (true :: T0) (sx _ _) s2 ⟨gi_s, sk_u (Nat.le_refl _) hs.2.2⟩ ⟨fun _ => bo_i (Or.inl rfl) (Or.inr rfl), ht.2.2⟩ (by rw [List.length_cons]; omega) htr2
      · rw [q2] at ht hT
        match V, hs, ht, hl with
        | v :: u :: V, hs, ht, hl =>
          have hT : T0.length + 1 + 1 ≤ 17 := hT
          have hl2 := ty_l ht.2.2
          rw [q3] at htr2
          rcases q1 with q1 | q1
          · skip
            have hes : es_ F s n (v :: u :: V) = (if u + v = 2 then 1 else 0) :: V := by rw [q1]; simp [es_]
            rw [q1] at hc1
            rw [hes, List.length_cons, List.length_cons, su_and (l := V.length) hb ht6 hkk he1 (by omega) he4 (by omega) hc1 hs.1 hs.2.1]
            exact nx _ ((if u + v = 2 then 1 else 0) :: V) (true :: T0) (sx _ _) s2 ⟨gi_s, sk_u (Nat.le_refl _) hs.2.2⟩ ⟨fun _ => bo_i (Or.inr rfl) (Or.inl rfl), ht.2.2⟩ (by rw [List.length_cons]; omega) htr2
          · skip
            have hes : es_ F s n (v :: u :: V) = (if u + v ≤ 0 then 0 else 1) :: V := by rw [q1]; simp [es_]
            rw [q1] at hc1
            rw [hes, List.length_cons, List.length_cons, su_or (l := V.length) hb ht6 hkk he1 (by omega) he4 (by omega) hc1 hs.1 hs.2.1]
            exact nx _ ((if u + v ≤ 0 then 0 else 1) :: V) (true :: T0) (sx _ _) s2 ⟨gi_s, sk_u (Nat.le_refl _) hs.2.2⟩ ⟨fun _ => bo_i (Or.inl rfl) (Or.inr rfl), ht.2.2⟩ (by rw [List.length_cons]; omega) htr2
