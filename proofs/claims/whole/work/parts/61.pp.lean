/-! ===== a pack that is put: what its cards hold ===== -/
theorem j_ne0 {z : Int} (a : z ≠ 0) (b : -2147483648 ≤ z) (c : z < 2147483648) : ¬ jI z = (0 : Int32) := fun e => a ((jI_eq b c (by omega) (by omega)).mp (show jI z = jI 0 from e))
def ag_ (w : Nat → Int) (p : Nat) (ck pl : Int) : Int := (ck - w (290 + 81 * p + 9 + pl.toNat)) / 10
def hn_ (w : Nat → Int) (t p : Nat) (ck i : Int) : Int := hg_ w t p (w (290 + 81 * p + 4)) (w (290 + 81 * p + 5)) (w (290 + 81 * p + 6)) (w (290 + 81 * p + 7)) (w (290 + 81 * p + 8)) (w (290 + 81 * p + 3)) (ag_ w p ck) i
def aw_ (w : Nat → Int) (t p : Nat) (ck : Int) : Int := swg_ w t p (w (290 + 81 * p + 4)) (w (290 + 81 * p + 5)) (w (290 + 81 * p + 6)) (w (290 + 81 * p + 7)) (w (290 + 81 * p + 8)) (w (290 + 81 * p + 3)) (ag_ w p ck) (w (290 + 81 * p + 2)).toNat
theorem hg_c {w : Nat → Int} {t p : Nat} {hs dr per sec gone ah i : Int} {age age' : Int → Int} (e : age (i / per) = age' (i / per)) : hg_ w t p hs dr per sec gone ah age i = hg_ w t p hs dr per sec gone ah age' i := by
  unfold hg_
  rw [e]
theorem swg_c {w : Nat → Int} {t p n : Nat} {hs dr per sec gone ah N : Int} {age age' : Int → Int} (h1 : 1 ≤ per) (h3 : per ≤ 3) (hn : (n : Int) ≤ N) (e : ∀ pl, 0 ≤ pl → pl < pl_ N per → age pl = age' pl) : swg_ w t p hs dr per sec gone ah age n = swg_ w t p hs dr per sec gone ah age' n := by
  unfold swg_
  refine sm_c fun i hi => hg_c ?_
  obtain ⟨-, -, -, -, -, -, -, n8, -, n10⟩ := nm_ (per := per) (i := (i : Int)) (n := N) h1 h3 (by omega)
  exact e _ n8 (n10 (by omega))
theorem Inv.w6 {gh : Nat} {x : Nat} {K : XK} {h : XH} (I : Inv gh x K h) : 0 ≤ wd x h 6 ∧ wd x h 6 ≤ 1000000 := ⟨I.1.1.2.2.2.2.2.2.2.2.2.2.2.2.1, I.1.1.2.2.2.2.2.2.2.2.2.2.2.2.2.1⟩
theorem Inv.w7 {gh : Nat} {x : Nat} {K : XK} {h : XH} (I : Inv gh x K h) : 0 ≤ wd x h 7 ∧ wd x h 7 ≤ 8 := ⟨I.1.1.2.2.2.2.2.2.2.2.2.2.2.2.2.2.1, I.1.1.2.2.2.2.2.2.2.2.2.2.2.2.2.2.2⟩
theorem Inv.gn {gh : Nat} {x : Nat} {K : XK} {h : XH} (I : Inv gh x K h) {p : Nat} (hp : (p : Int) < wd x h 1) : wd x h (290 + 81 * p + 8) ≤ 1000 := by
  have h1 := I.1.2.2.2.2.1.2.2.2.1
  have h2 := I.1.2.2.2.2.1.2.2.2.2 p hp
  rw [show 290 + 81 * p + 8 = 298 + 81 * p by omega]
  omega
theorem Inv.put {gh : Nat} {x : Nat} {K : XK} {h : XH} (I : Inv gh x K h) {p : Nat} (hp : (p : Int) < wd x h 1) (hq : 0 < wd x h (290 + 81 * p + 3)) : ∃ tm q, PT h (x + 13 + 6 + 3 * p + 1) (wd x h (290 + 81 * p + 4)) (wd x h (290 + 81 * p + 5)) (wd x h (290 + 81 * p + 6)) (wd x h (290 + 81 * p + 7)) (wd x h (290 + 81 * p + 8)) tm q (wd x h (290 + 81 * p + 3) - 1) ∧ PB (wd x h) p (wd x h (290 + 81 * p + 4)) (wd x h (290 + 81 * p + 5)) (wd x h (290 + 81 * p + 6)) (wd x h (290 + 81 * p + 3) - 1) ∧ (0 ≤ wd x h (290 + 81 * p + 7) ∧ wd x h (290 + 81 * p + 7) ≤ 60) ∧ (0 ≤ wd x h (290 + 81 * p + 8) ∧ wd x h (290 + 81 * p + 8) ≤ 1000) ∧ wd x h (290 + 81 * p + 3) ≤ 8 ∧ (wd x h (290 + 81 * p + 5) + pc_ (wd x h) p ≤ 20) ∧ ∀ pl, 0 ≤ pl → pl < pc_ (wd x h) p → wd x h (290 + 81 * p + 9 + pl.toNat) = tm + pl * q ∧ 0 ≤ wd x h (290 + 81 * p + 9 + pl.toNat) ∧ wd x h (290 + 81 * p + 9 + pl.toNat) ≤ wd x h 6 := by
  obtain ⟨p1, p2, p3, p4, p5, p6, p7, p8, p9, p10, p11, p12, p13, p14⟩ := I.wp hp
  obtain ⟨q1, q2, q3, q4, q5, q6, q7, q8, q9⟩ := p14 hq
  obtain ⟨k1, k2, k3, k4, k5, k6⟩ := I.pk hp
  obtain ⟨l1, l2, l3, l4, l5, l6, tm, q, l7, l8, l9, l10, l11, l12, l13⟩ := k6 hq
  have h20 := I.dr ⟨q1, q2⟩
  have h7 := I.w7
  have hg := I.gn hp
  refine ⟨tm, q, ⟨l1, l2, l3, l4, l5, l7, l8, l6⟩, ⟨q1, q2, q3, p11, p12, q4, by omega, by omega⟩, by omega, ⟨q7, hg⟩, by omega, ?_, fun pl h1 h2 => ?_⟩
  · unfold pc_
    omega
  · have a := l13 pl.toNat (by unfold pc_ at h2; omega)
    have b := q9 pl.toNat (by unfold pc_ at h2; omega)
    rw [Int.toNat_of_nonneg h1] at a
    exact ⟨a, b⟩
/-- AWAITED of a pack that is put, at a clock not behind -/
theorem c_sumAt {gh : Nat} {x : Nat} {K : XK} {h : XH} (I : Inv gh x K h) {p t r : Nat} (hp : (p : Int) < wd x h 1) (hq : 0 < wd x h (290 + 81 * p + 3)) (c : CTx x K h r (wd x h) (970 + 851 * t) false) (hx : WTx (wd x h) (970 + 851 * t) false) {ck : Int} (hc : wd x h 6 ≤ ck ∧ ck ≤ 1199999) :
    ∃ h2, f_X5_sumAt K x h (some r) (jI p) (jI ck) = some (jI (aw_ (wd x h) t p ck), h2) ∧ (∀ a, a ≠ x + 44 → a ≠ x + 45 → h2.1 a = h.1 a) ∧ h2.2 = h.2 := by
  have h1 := I.w1
  obtain ⟨tm, q, P1, P2, P3, P4, P5, P6, P7⟩ := I.put hp hq
  obtain ⟨-, -, -, b6, b7, -⟩ := id P2
  obtain ⟨h2, g1, g2, g3⟩ := c_sum I hp c hx (ck := ck) (by omega) (by omega) P1 P2 P3 (by omega) (fun pl a b => by have := P7 pl a b; omega)
  refine ⟨h2, ?_, g2, g3⟩
  unfold f_X5_sumAt
  rw [if_pos (jI_b (by omega) (by omega) (by omega)), nat_ (by omega), g1, Option.bind_some]
  unfold aw_
  rw [Int.sub_add_cancel, swg_c (N := wd x h (290 + 81 * p + 2)) (age' := ag_ (wd x h) p ck) b6 b7 (by have := (I.wp hp).2.2.2.2.2.2.1; omega) (fun pl a b => by
    unfold ag_
    rw [(P7 pl a b).1, show ck - tm - pl * q = ck - (tm + pl * q) by omega])]
theorem c_plc {gh : Nat} {x : Nat} {K : XK} {h : XH} (I : Inv gh x K h) {p : Nat} (hp : (p : Int) < wd x h 1) (hq : 0 < wd x h (290 + 81 * p + 3)) {i : Int} (hi : 0 ≤ i ∧ i ≤ 60) : f_X2_placeOf (x + 13 + 6 + 3 * p) h (jI i) = some (jI (i / wd x h (290 + 81 * p + 6))) ∧ f_X2_roleOf (x + 13 + 6 + 3 * p) h (jI i) = some (jI (i % wd x h (290 + 81 * p + 6))) := by
  obtain ⟨tm, q, P1, P2, -⟩ := I.put hp hq
  obtain ⟨-, -, -, b6, b7, -⟩ := P2
  have e2 := P1.2.2.1
  have a : f_X2_placeOf (x + 13 + 6 + 3 * p) h (jI i) = some (jI (i / wd x h (290 + 81 * p + 6))) := by
    unfold f_X2_placeOf
    rw [e2, if_pos (show (1 : Int32) ≤ jI (wd x h (290 + 81 * p + 6)) from (jI_le (a := 1) (by omega) (by omega) (by omega) (by omega)).mpr b6), if_neg (j_ne0 (by omega) (by omega) (by omega)), jI_div (by omega) (by omega) (by omega) (by omega)]
  refine ⟨a, ?_⟩
  unfold f_X2_roleOf
  rw [a, Option.bind_some, e2, jI_mul, jI_sub, Int.emod_def, Int.mul_comm]
/-- HOLDS now -/
theorem c_now {gh : Nat} {x : Nat} {K : XK} {h : XH} (I : Inv gh x K h) {p t r : Nat} (hp : (p : Int) < wd x h 1) (hq : 0 < wd x h (290 + 81 * p + 3)) (c : CTx x K h r (wd x h) (970 + 851 * t) false) (hx : WTx (wd x h) (970 + 851 * t) false) {i : Int} (hi : 0 ≤ i ∧ i < wd x h (290 + 81 * p + 2)) :
    ∃ h2, f_X5_heldNow K x h (some r) (jI p) (jI i) = some (jI (hn_ (wd x h) t p (wd x h 6) i), h2) ∧ (∀ a, a ≠ x + 44 → a ≠ x + 45 → h2.1 a = h.1 a) ∧ h2.2 = h.2 := by
  have h1 := I.w1
  have h6 := I.w6
  have e7 := I.2.1.1.2.2.2.1
  have hr := c.1
  obtain ⟨tm, q, P1, P2, P3, P4, P5, P6, P7⟩ := I.put hp hq
  obtain ⟨-, -, -, b6, b7, -⟩ := id P2
  obtain ⟨-, -, -, -, -, -, p7, p8, -⟩ := I.wp hp
  have hpl := pl_b p7 p8 b6 b7
  obtain ⟨-, -, -, -, -, n6, n7, n8, n9, n10⟩ := nm_ (per := wd x h (290 + 81 * p + 6)) (i := i) (n := wd x h (290 + 81 * p + 2)) b6 b7 hi.1
  have ni := n10 hi.2
  have Pi := P7 _ n8 ni
  obtain ⟨h2, g1, g2, g3, g4⟩ := c_face I hp (pl := i / wd x h (290 + 81 * p + 6)) (ck := wd x h 6) (by omega) P1 P2 ⟨n8, ni⟩ (by omega) (i % wd x h (290 + 81 * p + 6)) (du_ (wd x h) (cd_ (wd x h) p i) (i % wd x h (290 + 81 * p + 6)))
  have F : Fr x h h2 := Fr.o1 g2 g3 (by decide)
  have J := I.fr F
  have ew := F.ew
  obtain ⟨d1, d2⟩ := c_dul J (p := p) (by rw [ew]; exact hp) (i := i) (r := i % wd x h (290 + 81 * p + 6)) (by omega) ⟨n6, by omega⟩
  rw [ew] at d2
  have db := du_b I (p := p) (i := i) (r := i % wd x h (290 + 81 * p + 6)) ⟨n6, by omega⟩
  have c2 : CTx x K h2 r (wd x h) (970 + 851 * t) false := c.c ⟨hx.1, hx.2.1⟩ (fun _ _ _ => rfl) (fun a q1 _ => g2 a (by omega)) (fun _ _ _ => rfl)
  rw [Int.sub_add_cancel] at g4
  have gk := fg_k I (p := p) (hs := wd x h (290 + 81 * p + 4)) (dr := wd x h (290 + 81 * p + 5)) (ah := wd x h (290 + 81 * p + 3)) (pl := i / wd x h (290 + 81 * p + 6)) (age := (wd x h 6 - tm - i / wd x h (290 + 81 * p + 6) * q) / 10) P3 ⟨P4.1, by omega⟩ (by omega) ⟨b6, b7⟩ ⟨n6, by omega⟩ db hpl.2
  obtain ⟨h3, k1, k2, k3, -⟩ := c_hw c2 hx g4 (ro := i % wd x h (290 + 81 * p + 6)) (du := du_ (wd x h) (cd_ (wd x h) p i) (i % wd x h (290 + 81 * p + 6))) (by simp [fg_]) (by simp [fg_]) gk
  have pr := (c_plc I hp hq (i := i) (by omega)).1
  have rl := (c_plc J (p := p) (by rw [ew]; exact hp) (by rw [ew]; exact hq) (i := i) (by omega)).2
  rw [ew] at rl
  refine ⟨h3, ?_, fun a q1 q2 => by rw [k2 a q1 q2, g2 a q1], by rw [k3, g3]⟩
  unfold f_X5_heldNow
  rw [if_pos (jI_b (by omega) (by omega) (by omega)), nat_ (by omega), pr, Option.bind_some, e7, g1, Option.bind_some, rl, Option.bind_some, if_pos d1, d2, k1, Option.bind_some]
  unfold hn_ hg_ ag_
  rw [Pi.1, show wd x h 6 - tm - i / wd x h (290 + 81 * p + 6) * q = wd x h 6 - (tm + i / wd x h (290 + 81 * p + 6) * q) by omega]
/-! the reference -/
theorem r_age {gh : Nat} {x : Nat} {K : XK} {h : XH} (I : Inv gh x K h) {p : Nat} (hp : (p : Int) < wd x h 1) (hq : 0 < wd x h (290 + 81 * p + 3)) {i ck : Int} (hi : 0 ≤ i ∧ i < wd x h (290 + 81 * p + 2)) (hc : wd x h 6 ≤ ck ∧ ck ≤ 1199999) : f_X12_ageOf x h (jI p) (jI i) (jI ck) = some (jI (ag_ (wd x h) p ck (i / wd x h (290 + 81 * p + 6)))) ∧ 0 ≤ ag_ (wd x h) p ck (i / wd x h (290 + 81 * p + 6)) ∧ ag_ (wd x h) p ck (i / wd x h (290 + 81 * p + 6)) ≤ 120000 := by
  have h1 := I.w1
  obtain ⟨tm, q, P1, P2, P3, P4, P5, P6, P7⟩ := I.put hp hq
  obtain ⟨-, -, -, b6, b7, -⟩ := id P2
  obtain ⟨-, -, -, -, -, -, p7, p8, -⟩ := I.wp hp
  obtain ⟨-, -, -, -, -, n6, n7, n8, n9, n10⟩ := nm_ (per := wd x h (290 + 81 * p + 6)) (i := i) (n := wd x h (290 + 81 * p + 2)) b6 b7 hi.1
  have ni := n10 hi.2
  have Pi := P7 _ n8 ni
  have ni' : i / wd x h (290 + 81 * p + 6) < pc_ (wd x h) p := ni
  have hd : 0 ≤ wd x h (290 + 81 * p + 5) := P2.2.2.1
  have o6 : f_X12_of x h (jI p) 6 = some (jI (wd x h (290 + 81 * p + 6))) := of_6 (by omega)
  have ot := of_t (x := x) (h := h) (p := p) (k := i / wd x h (290 + 81 * p + 6)) (by omega) (by omega)
  unfold ag_
  refine ⟨?_, by omega, by omega⟩
  unfold f_X12_ageOf
  rw [o6, Option.bind_some, if_neg (j_ne0 (by omega) (by omega) (by omega)), jI_div (by omega) (by omega) (by omega) (by omega), show (9 : Int32) = jI 9 from rfl, jI_add, ot, Option.bind_some, jI_sub, show (10 : Int32) = jI 10 from rfl, jI_div (by omega) (by omega) (by omega) (by omega)]
theorem r_asks {x : Nat} {h : XH} {p : Nat} (hp : p < 8) {v2 v3 v4 : Int32} : f_X12_asks x h (jI p) v2 v3 v4 = Option.bind (f_X12_supposes x h (jI p) v2 (jI (wd x h (290 + 81 * p + 4))) (jI (wd x h (290 + 81 * p + 5))) (jI (wd x h (290 + 81 * p + 6))) (jI (wd x h (290 + 81 * p + 7))) v3 v4 (jI (wd x h (290 + 81 * p + 3)))) (fun h6 => some h6) := by
  have o4 : f_X12_of x h (jI p) 4 = _ := of_4 hp
  have o5 : f_X12_of x h (jI p) 5 = _ := of_5 hp
  have o6 : f_X12_of x h (jI p) 6 = _ := of_6 hp
  have o7 : f_X12_of x h (jI p) 7 = _ := of_7 hp
  have o3 : f_X12_of x h (jI p) 3 = _ := of_3 hp
  unfold f_X12_asks
  rw [o4, Option.bind_some, o5, Option.bind_some, o6, Option.bind_some, o7, Option.bind_some, o3, Option.bind_some]
/-- one card of a put pack in the reference, at a clock and with so many times gone -/
theorem r_card1 {gh : Nat} {x : Nat} {K : XK} {h : XH} (I : Inv gh x K h) {p t : Nat} (hp : (p : Int) < wd x h 1) (hq : 0 < wd x h (290 + 81 * p + 3)) (ht : (t : Int) < wd x h 2) {i gone : Int} {age : Int → Int} (hi : 0 ≤ i ∧ i < wd x h (290 + 81 * p + 2)) (c2 : 0 ≤ gone ∧ gone ≤ 120000) (c3 : 0 ≤ age (i / wd x h (290 + 81 * p + 6)) ∧ age (i / wd x h (290 + 81 * p + 6)) ≤ 120000) :
    ∃ h1 h2, f_X12_asks x h (jI p) (jI i) (jI (age (i / wd x h (290 + 81 * p + 6)))) (jI gone) = some h1 ∧ RF x h1 (fg_ (wd x h) p (wd x h (290 + 81 * p + 4)) (wd x h (290 + 81 * p + 5)) (wd x h (290 + 81 * p + 6)) (wd x h (290 + 81 * p + 7)) gone (wd x h (290 + 81 * p + 3)) (age (i / wd x h (290 + 81 * p + 6))) (i / wd x h (290 + 81 * p + 6)) (i % wd x h (290 + 81 * p + 6)) (du_ (wd x h) (cd_ (wd x h) p i) (i % wd x h (290 + 81 * p + 6)))) ∧ f_X12_held x h1 (jI (t : Int)) = some (jI (hg_ (wd x h) t p (wd x h (290 + 81 * p + 4)) (wd x h (290 + 81 * p + 5)) (wd x h (290 + 81 * p + 6)) (wd x h (290 + 81 * p + 7)) gone (wd x h (290 + 81 * p + 3)) age i), h2) ∧ (∀ a, a ≠ x + 69 → h1.1 a = h.1 a) ∧ h1.2 = h.2 ∧ (∀ a, a ≠ x + 69 → a ≠ x + 70 → h2.1 a = h.1 a) ∧ h2.2 = h.2 := by
  have h1 := I.w1
  obtain ⟨tm, q, P1, P2, P3, P4, P5, P6, P7⟩ := I.put hp hq
  obtain ⟨b1, b2, b3, b6, b7, b8, -⟩ := id P2
  obtain ⟨h1, h2, g1, g2, g3, g4, g5, g6, g7⟩ := r_one I hp ht (sec := wd x h (290 + 81 * p + 7)) (gone := gone) (age := age) ⟨b1, b2⟩ b3 ⟨b6, b7⟩ P6 (ah := wd x h (290 + 81 * p + 3)) (by omega) hi P3 c2 c3
  refine ⟨h1, h2, ?_, g2, g3, g4, g5, g6, g7⟩
  rw [r_asks (by omega), g1, Option.bind_some]
theorem r_now {gh : Nat} {x : Nat} {K : XK} {h : XH} (I : Inv gh x K h) {p t : Nat} (hp : (p : Int) < wd x h 1) (hq : 0 < wd x h (290 + 81 * p + 3)) (ht : (t : Int) < wd x h 2) {i : Int} (hi : 0 ≤ i ∧ i < wd x h (290 + 81 * p + 2)) :
    ∃ h2, f_X12_heldOf x h (jI t) (jI p) (jI i) = some (jI (hn_ (wd x h) t p (wd x h 6) i), h2) ∧ (∀ a, a ≠ x + 69 → a ≠ x + 70 → h2.1 a = h.1 a) ∧ h2.2 = h.2 := by
  have h1 := I.w1
  have h6 := I.w6
  obtain ⟨tm, q, P1, P2, P3, P4, P5, P6, P7⟩ := I.put hp hq
  obtain ⟨ra, ra1, ra2⟩ := r_age I hp hq hi (ck := wd x h 6) (by omega)
  obtain ⟨h1, h2, g1, g2, g3, g4, g5, g6, g7⟩ := r_card1 I hp hq ht hi (gone := wd x h (290 + 81 * p + 8)) (age := ag_ (wd x h) p (wd x h 6)) (by omega) ⟨ra1, ra2⟩
  refine ⟨h2, ?_, g6, g7⟩
  have o8 : f_X12_of x h (jI p) 8 = some (jI (wd x h (290 + 81 * p + 8))) := of_8 (by omega)
  have e6 : h.1 (x + 65) (6 : Int32).toNatClampNeg = jI (wd x h 6) := wd_j _ _ _
  unfold f_X12_heldOf
  rw [if_pos (by decide), e6, ra, Option.bind_some, o8, Option.bind_some, g1, Option.bind_some, g3, Option.bind_some]
  rfl
/-- AWAITED in the reference, so many seconds later -/
theorem r_sumAt {gh : Nat} {x : Nat} {K : XK} {h : XH} (I : Inv gh x K h) {p t : Nat} (hp : (p : Int) < wd x h 1) (hq : 0 < wd x h (290 + 81 * p + 3)) (ht : (t : Int) < wd x h 2) {s : Int} (hs : 0 ≤ s ∧ s ≤ 99999) :
    ∃ h2, f_X12_awaitedIn x h (jI t) (jI p) (jI s) = some (jI (aw_ (wd x h) t p (wd x h 6 + s)), h2) ∧ (∀ a, a ≠ x + 69 → a ≠ x + 70 → h2.1 a = h.1 a) ∧ h2.2 = h.2 := by
  have h1 := I.w1
  have h6 := I.w6
  obtain ⟨-, -, -, -, -, -, p7, p8, -⟩ := I.wp hp
  obtain ⟨tm, q, P1, P2, P3, P4, P5, P6, P7⟩ := I.put hp hq
  have key := x_up0 (P := fun m i => ∀ h1 : XH, (∀ a, a ≠ x + 69 → a ≠ x + 70 → h1.1 a = h.1 a) → h1.2 = h.2 → ∃ h2, f_X12_awaitedIn_6 x m h1 (jI t) (jI p) (jI s) (jI (sm_ i (fun i => hn_ (wd x h) t p (wd x h 6 + s) i))) (jI (i : Int)) = some (jI (aw_ (wd x h) t p (wd x h 6 + s)), h2) ∧ (∀ a, a ≠ x + 69 → a ≠ x + 70 → h2.1 a = h.1 a) ∧ h2.2 = h.2) (wd x h (290 + 81 * p + 2)).toNat (by omega) (fun m h1 f1 f2 => by
    have F : Fr x h h1 := Fr.o2 f1 f2 (by decide) (by decide)
    have o2 : f_X12_of x h1 (jI p) 2 = some (jI (wd x h1 (290 + 81 * p + 2))) := of_2 (by omega)
    rw [F.ew] at o2
    refine ⟨h1, ?_, f1, f2⟩
    unfold f_X12_awaitedIn_6
    rw [o2, Option.bind_some, if_pos ((jI_le (by omega) (by omega) (by omega) (by omega)).mpr (by omega))]
    rfl) (fun m i hi ih => by
    intro h1 f1 f2
    have F : Fr x h h1 := Fr.o2 f1 f2 (by decide) (by decide)
    have J := I.fr F
    have ew := F.ew
    have o2 : f_X12_of x h1 (jI p) 2 = some (jI (wd x h1 (290 + 81 * p + 2))) := of_2 (by omega)
    have o8 : f_X12_of x h1 (jI p) 8 = some (jI (wd x h1 (290 + 81 * p + 8))) := of_8 (by omega)
    have e6 : h1.1 (x + 65) (6 : Int32).toNatClampNeg = jI (wd x h1 6) := wd_j _ _ _
    have ra := r_age J (p := p) (by rw [ew]; exact hp) (by rw [ew]; exact hq) (i := (i : Int)) (ck := wd x h 6 + s) (by rw [ew]; omega) (by rw [ew]; omega)
    have r1 := r_card1 J (p := p) (t := t) (by rw [ew]; exact hp) (by rw [ew]; exact hq) (by rw [ew]; exact ht) (i := (i : Int)) (gone := wd x h (290 + 81 * p + 8)) (age := ag_ (wd x h) p (wd x h 6 + s)) (by rw [ew]; omega) (by omega) (by rw [← ew]; rw [← ew] at ra; exact ra.2)
    rw [ew] at o2 o8 e6 ra r1
    obtain ⟨h3, h4, g1, g2, g3, g4, g5, g6, g7⟩ := r1
    obtain ⟨h2, k1, k2, k3⟩ := ih h4 (fun a q1 q2 => by rw [g6 a q1 q2, f1 a q1 q2]) (by rw [g7, f2])
    refine ⟨h2, ?_, k2, k3⟩
    unfold f_X12_awaitedIn_6
    rw [o2, Option.bind_some, if_neg (fun e => absurd ((jI_le (by omega) (by omega) (by omega) (by omega)).mp e) (by omega)), if_pos (by decide), e6, jI_add, ra.1, Option.bind_some, o8, Option.bind_some, g1, Option.bind_some, g3, Option.bind_some, show (1 : Int32) = jI 1 from rfl, jI_add, jI_add]
    rw [sm_s] at k1
    exact k1)
  obtain ⟨h2, k1, k2, k3⟩ := key h (fun _ _ _ => rfl) rfl
  exact ⟨h2, k1, k2, k3⟩
