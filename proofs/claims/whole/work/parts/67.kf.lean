/-! ===== find and kind, on both sides ===== -/
theorem c_find {gh : Nat} {x : Nat} {K : XK} {h : XH} (I : Inv gh x K h) {p : Nat} (hp : (p : Int) < wd x h 1) (hq : 0 < wd x h (290 + 81 * p + 3)) {i : Int} (hi : 0 ≤ i ∧ i < wd x h (290 + 81 * p + 2)) :
    ∃ h2, f_X6_find x h (jI p) (jI i) = some h2 ∧ (∀ a, a ≠ x + 50 → h2.1 a = h.1 a) ∧ h2.2 = h.2 ∧ ∀ k : Int, 2 ≤ k → k ≤ 5 → h2.1 (x + 50) k.toNat = jI (sl_ (wd x h) p i k) := by
  have w1 := I.w1
  obtain ⟨tm, q, P1, P2, P3, P4, P5, P6, P7⟩ := I.put hp hq
  obtain ⟨b1, b2, b3, b6, b7, b8, -⟩ := id P2
  obtain ⟨-, -, -, -, -, -, p7, p8, -⟩ := I.wp hp
  have pcb := pc_b I hp
  obtain ⟨-, -, -, -, -, n6, n7, n8, n9, n10⟩ := nm_ (per := wd x h (290 + 81 * p + 6)) (i := i) (n := wd x h (290 + 81 * p + 2)) b6 b7 hi.1
  have ni : i / wd x h (290 + 81 * p + 6) < pc_ (wd x h) p := n10 hi.2
  obtain ⟨cp, cr⟩ := c_plc I hp hq (i := i) (by omega)
  have dm : i / wd x h (290 + 81 * p + 6) * wd x h (290 + 81 * p + 6) + i % wd x h (290 + 81 * p + 6) = i := by
    have := Int.mul_ediv_add_emod i (wd x h (290 + 81 * p + 6))
    rw [Int.mul_comm]
    exact this
  have on := c_cw I hp hq (pl := i / wd x h (290 + 81 * p + 6) + 1) (ro := i % wd x h (290 + 81 * p + 6)) (by omega) (by omega)
  have onb := cw_b (w := wd x h) (p := p) (pl := i / wd x h (290 + 81 * p + 6) + 1) (ro := i % wd x h (290 + 81 * p + 6))
  have gs := c_gho I hp hq (dr := wd x h (290 + 81 * p + 5) + i / wd x h (290 + 81 * p + 6)) (ro := i % wd x h (290 + 81 * p + 6)) (by omega) (by omega)
  generalize hG : (go_ (wd x h) p (wd x h (290 + 81 * p + 5) + i / wd x h (290 + 81 * p + 6)) (i % wd x h (290 + 81 * p + 6)) (wd x h 1).toNat).2 = G at gs
  have F1 : Fr x h (x_i h (x + 50) 2 (jI G)) := Fr.i (by decide)
  have as := c_ali (I.fr F1) (p := p) (by rw [F1.ew]; exact hp) (by rw [F1.ew]; exact hq) (pl := i / wd x h (290 + 81 * p + 6)) (ro := i % wd x h (290 + 81 * p + 6)) (by rw [F1.ew]; exact ⟨n8, ni⟩) (by omega)
  rw [F1.ew] at as
  generalize hA : al_ (wd x h) p (i / wd x h (290 + 81 * p + 6)) (i % wd x h (290 + 81 * p + 6)) (pc_ (wd x h) p).toNat 0 = A at as
  have F2 : Fr x h (x_i (x_i h (x + 50) 2 (jI G)) (x + 50) 3 (jI A)) := F1.tr (Fr.i (by decide))
  have sw := c_swp (I.fr F2) (p := p) (by rw [F2.ew]; exact hp) (by rw [F2.ew]; exact hq) (pl := i / wd x h (290 + 81 * p + 6)) (ro := i % wd x h (290 + 81 * p + 6)) (by omega) (by rw [F2.ew]; exact ⟨n6, n7⟩) (by rw [F2.ew, dm]; exact hi.2)
  rw [F2.ew] at sw
  generalize hS : sp_ (wd x h) p (i / wd x h (290 + 81 * p + 6)) (i % wd x h (290 + 81 * p + 6)) = S at sw
  have F3 : Fr x h (x_i (x_i (x_i h (x + 50) 2 (jI G)) (x + 50) 3 (jI A)) (x + 50) 4 (jI S)) := F2.tr (Fr.i (by decide))
  have bk := c_cw (I.fr F3) (p := p) (by rw [F3.ew]; exact hp) (by rw [F3.ew]; exact hq) (pl := i / wd x h (290 + 81 * p + 6) - 1) (ro := i % wd x h (290 + 81 * p + 6)) (by omega) (by omega)
  rw [F3.ew] at bk
  have t2 : (2 : Int32).toNatClampNeg = 2 := rfl
  have t3 : (3 : Int32).toNatClampNeg = 3 := rfl
  have t4 : (4 : Int32).toNatClampNeg = 4 := rfl
  have t5 : (5 : Int32).toNatClampNeg = 5 := rfl
  have e5 : (if jI (cw_ (wd x h) p (i / wd x h (290 + 81 * p + 6) + 1) (i % wd x h (290 + 81 * p + 6))) = (-1 : Int32) then jI (cw_ (wd x h) p (i / wd x h (290 + 81 * p + 6) - 1) (i % wd x h (290 + 81 * p + 6))) else jI (cw_ (wd x h) p (i / wd x h (290 + 81 * p + 6) + 1) (i % wd x h (290 + 81 * p + 6)))) = jI (sf_ (wd x h) p (i / wd x h (290 + 81 * p + 6)) (i % wd x h (290 + 81 * p + 6))) := by
    unfold sf_
    by_cases e : 0 ≤ cw_ (wd x h) p (i / wd x h (290 + 81 * p + 6) + 1) (i % wd x h (290 + 81 * p + 6))
    · rw [if_pos e, if_neg (fun q => absurd ((jm1 (by omega) (by omega)).mp q) (by omega))]
    · rw [if_neg e, if_pos ((jm1 (by omega) (by omega)).mpr (by omega))]
  refine ⟨x_i (x_i (x_i (x_i h (x + 50) 2 (jI G)) (x + 50) 3 (jI A)) (x + 50) 4 (jI S)) (x + 50) 5 (jI (sf_ (wd x h) p (i / wd x h (290 + 81 * p + 6)) (i % wd x h (290 + 81 * p + 6)))), ?_, fun a ha => ?_, rfl, fun k k1 k2 => ?_⟩
  · unfold f_X6_find
    rw [if_pos (jI_b (by omega) (by omega) (by omega)), nat_ (by omega), cp, Option.bind_some, cr, Option.bind_some, show (1 : Int32) = jI 1 from rfl, jI_add, on, xl_, P1.2.1, jI_add, gs, Option.bind_some, if_pos (by decide), xl_, t2, as, Option.bind_some, if_pos (by decide), xl_, t3, if_pos (by decide), xl_, t4, sw, if_pos (by decide), xl_, t5, jI_sub, bk, show -jI 1 = (-1 : Int32) by decide, e5]
  · simp only [gi_n ha]
  · unfold sl_
    rw [hG, hA, hS]
    rcases (show k = 2 ∨ k = 3 ∨ k = 4 ∨ k = 5 by omega) with e | e | e | e <;> subst e <;> simp [gi_]
theorem r_slip {gh : Nat} {x : Nat} {K : XK} {h : XH} (I : Inv gh x K h) {p : Nat} (hp : (p : Int) < wd x h 1) (hq : 0 < wd x h (290 + 81 * p + 3)) {i k : Int} (hi : 0 ≤ i ∧ i < wd x h (290 + 81 * p + 2)) (hk : 2 ≤ k ∧ k ≤ 5) : f_X12_slip x h (jI p) (jI i) (jI k) = some (jI (sl_ (wd x h) p i k)) := by
  have w1 := I.w1
  obtain ⟨tm, q, P1, P2, P3, P4, P5, P6, P7⟩ := I.put hp hq
  obtain ⟨b1, b2, b3, b6, b7, b8, -⟩ := id P2
  obtain ⟨-, -, -, -, -, -, p7, p8, -⟩ := I.wp hp
  have pcb := pc_b I hp
  obtain ⟨-, -, -, -, -, n6, n7, n8, n9, n10⟩ := nm_ (per := wd x h (290 + 81 * p + 6)) (i := i) (n := wd x h (290 + 81 * p + 2)) b6 b7 hi.1
  have ni : i / wd x h (290 + 81 * p + 6) < pc_ (wd x h) p := n10 hi.2
  have o6 : f_X12_of x h (jI p) 6 = some (jI (wd x h (290 + 81 * p + 6))) := of_6 (by omega)
  have dv : jI i / jI (wd x h (290 + 81 * p + 6)) = jI (i / wd x h (290 + 81 * p + 6)) := jI_div (by omega) (by omega) (by omega) (by omega)
  have rm : x_rem (jI i) (jI (wd x h (290 + 81 * p + 6))) = jI (i % wd x h (290 + 81 * p + 6)) := jI_rem (by omega) (by omega) (by omega) (by omega)
  have nz := j_ne0 (z := wd x h (290 + 81 * p + 6)) (by omega) (by omega) (by omega)
  have ne : ∀ c : Int, 0 ≤ c → c ≤ 5 → k ≠ c → ¬ jI k = jI c := fun c c0 c1 c2 e => c2 ((jI_eq (by omega) (by omega) (by omega) (by omega)).mp e)
  unfold f_X12_slip
  rw [o6, Option.bind_some, if_neg nz, if_neg nz, dv, rm]
  generalize hQ : i / wd x h (290 + 81 * p + 6) = Q at *
  generalize hR : i % wd x h (290 + 81 * p + 6) = R at *
  unfold sl_
  rw [hQ, hR]
  by_cases k2 : k = 2
  · rw [if_pos (show jI k = (2 : Int32) by rw [k2]; rfl), if_pos k2, r_gho I hp hq (by omega) (by omega), Option.bind_some]
  · rw [if_neg (show ¬ jI k = (2 : Int32) from ne 2 (by omega) (by omega) k2), if_neg k2]
    by_cases k3 : k = 3
    · rw [if_pos (show jI k = (3 : Int32) by rw [k3]; rfl), if_pos k3, r_ali I hp hq ⟨n8, ni⟩ (by omega), Option.bind_some]
    · rw [if_neg (show ¬ jI k = (3 : Int32) from ne 3 (by omega) (by omega) k3), if_neg k3]
      by_cases k4 : k = 4
      · rw [if_pos (show jI k = (4 : Int32) by rw [k4]; rfl), if_pos k4, show (1 : Int32) = jI 1 from rfl, jI_add, r_cw I hp (by omega) (by omega), Option.bind_some, xl_]
        have cb := cw_b (w := wd x h) (p := p) (pl := Q) (ro := R + 1)
        unfold sp_
        by_cases e : 0 ≤ cw_ (wd x h) p Q (R + 1)
        · rw [if_neg (fun q => absurd ((jlt0 (by omega) (by omega)).mp q) (by omega)), if_pos e, if_neg (show ¬ jI (R + 1) = jI R from fun q => absurd ((jI_eq (by omega) (by omega) (by omega) (by omega)).mp q) (by omega)), r_cw I hp (by omega) (by omega), Option.bind_some, if_neg (show ¬ R + 1 = R by omega)]
        · rw [if_pos ((jlt0 (by omega) (by omega)).mpr (by omega)), if_neg e]
          by_cases e2 : R = 0
          · rw [if_pos (show (0 : Int32) = jI R by rw [e2]; rfl), if_pos (by omega)]
            rfl
          · rw [if_neg (show ¬ (0 : Int32) = jI R from fun q => e2 ((jI_eq (a := 0) (by omega) (by omega) (by omega) (by omega)).mp q).symm), if_neg (by omega), show (0 : Int32) = jI 0 from rfl, r_cw I hp (by omega) (by omega), Option.bind_some]
      · rw [if_neg (show ¬ jI k = (4 : Int32) from ne 4 (by omega) (by omega) k4), if_neg k4, show (1 : Int32) = jI 1 from rfl, jI_add, r_cw I hp (by omega) (by omega), Option.bind_some]
        have cb := cw_b (w := wd x h) (p := p) (pl := Q + 1) (ro := R)
        unfold sf_
        by_cases e : 0 ≤ cw_ (wd x h) p (Q + 1) R
        · rw [if_neg (fun q => absurd ((jlt0 (by omega) (by omega)).mp q) (by omega)), Option.bind_some, if_pos e]
        · rw [if_pos ((jlt0 (by omega) (by omega)).mpr (by omega)), jI_sub, r_cw I hp (by omega) (by omega), Option.bind_some, if_neg e]
/-- the first of the kinds that it is -/
def kf_ (f : Int → Int) (s : Int) : Nat → Int → Int
  | 0, _ => 6
  | n + 1, k => if f k = s then k else kf_ f s n (k + 1)
def kd_ (w : Nat → Int) (p : Nat) (i : Int) : Int := if w (290 + 81 * p + 29 + i.toNat) = cd_ w p i then 0 else if w (290 + 81 * p + 29 + i.toNat) < 0 then 1 else kf_ (sl_ w p i) (w (290 + 81 * p + 29 + i.toNat)) 4 2
theorem kf_b {f : Int → Int} {s : Int} : ∀ (n : Nat) (k : Int), 2 ≤ k → k + n ≤ 6 → 2 ≤ kf_ f s n k ∧ kf_ f s n k ≤ 6 := by
  intro n
  induction n with
  | zero => intro k _ _; exact ⟨show (2 : Int) ≤ 6 by decide, show (6 : Int) ≤ 6 by decide⟩
  | succ n ih =>
    intro k h1 h2
    unfold kf_
    split
    · omega
    · exact ih (k + 1) (by omega) (by omega)
theorem kd_b {w : Nat → Int} {p : Nat} {i : Int} : 0 ≤ kd_ w p i ∧ kd_ w p i ≤ 6 := by
  have := kf_b (f := sl_ w p i) (s := w (290 + 81 * p + 29 + i.toNat)) 4 2 (by omega) (by omega)
  unfold kd_
  split
  · omega
  · split <;> omega
theorem c_kind {gh : Nat} {x : Nat} {K : XK} {h : XH} (I : Inv gh x K h) {p : Nat} (hp : (p : Int) < wd x h 1) (hq : 0 < wd x h (290 + 81 * p + 3)) {i : Int} (hi : 0 ≤ i ∧ i < wd x h (290 + 81 * p + 2)) :
    ∃ h2, f_X6_kindOf x h (jI p) (jI i) = some (jI (kd_ (wd x h) p i), h2) ∧ (∀ a, a ≠ x + 50 → h2.1 a = h.1 a) ∧ h2.2 = h.2 := by
  have w1 := I.w1
  obtain ⟨-, -, -, -, -, -, p7, p8, -, -, -, -, p13, -⟩ := I.wp hp
  have sd : h.1 (x + 13 + 6 + 3 * p + 2) i.toNat = jI (wd x h (290 + 81 * p + 29 + i.toNat)) := (I.pk hp).2.2.2.2.1 i.toNat (by omega)
  have sb := p13 i.toNat (by omega)
  have cc := c_card I hp (i := i) (by omega)
  have cb := cd_b (wd x h) p i
  have ne : f_X6_kindOf x h (jI p) (jI i) = if jI (wd x h (290 + 81 * p + 29 + i.toNat)) = jI (cd_ (wd x h) p i) then some (0, h) else if jI (wd x h (290 + 81 * p + 29 + i.toNat)) = -1 then some (1, h) else Option.bind (f_X6_find x h (jI p) (jI i)) (fun h4 => f_X6_kindOf_47 x x_FU h4 (jI (wd x h (290 + 81 * p + 29 + i.toNat))) 2) := by
    unfold f_X6_kindOf
    rw [if_pos (jI_b (by omega) (by omega) (by omega)), if_pos (jI_b (by omega) (by omega) (by omega)), xl_, nat_ (by omega), jI_nat (by omega) (by omega), sd, cc]
  unfold kd_
  by_cases c1 : wd x h (290 + 81 * p + 29 + i.toNat) = cd_ (wd x h) p i
  · exact ⟨h, by rw [ne, if_pos (by rw [c1]), if_pos c1]; rfl, fun _ _ => rfl, rfl⟩
  · rw [if_neg (fun e => c1 ((jI_eq (by omega) (by omega) (by omega) (by omega)).mp e))] at ne
    by_cases c2 : wd x h (290 + 81 * p + 29 + i.toNat) < 0
    · exact ⟨h, by rw [ne, if_pos ((jm1 (by omega) (by omega)).mpr (by omega)), if_neg c1, if_pos c2]; rfl, fun _ _ => rfl, rfl⟩
    · obtain ⟨h2, f1, f2, f3, f4⟩ := c_find I hp hq hi
      refine ⟨h2, ?_, f2, f3⟩
      rw [ne, if_neg (fun e => absurd ((jm1 (by omega) (by omega)).mp e) (by omega)), if_neg c1, if_neg c2, f1, Option.bind_some]
      refine x_up0 (P := fun m n => f_X6_kindOf_47 x m h2 (jI (wd x h (290 + 81 * p + 29 + i.toNat))) (jI ((n : Int) + 2)) = some (jI (kf_ (sl_ (wd x h) p i) (wd x h (290 + 81 * p + 29 + i.toNat)) (4 - n) ((n : Int) + 2)), h2)) 4 (by omega) (fun m => by
        unfold f_X6_kindOf_47
        rw [if_pos (by decide)]
        rfl) (fun m n hn ih => by
        have sb2 := sl_b I (p := p) (i := i) (k := (n : Int) + 2)
        unfold f_X6_kindOf_47
        rw [if_neg (show ¬ (5 : Int32) < jI ((n : Int) + 2) from fun e => absurd ((jI_lt (a := 5) (by omega) (by omega) (by omega) (by omega)).mp e) (by omega)), if_pos (jI_b (by omega) (by omega) (by omega)), jI_nat (by omega) (by omega), f4 _ (by omega) (by omega), show 4 - n = 4 - (n + 1) + 1 by omega]
        unfold kf_
        by_cases c3 : sl_ (wd x h) p i ((n : Int) + 2) = wd x h (290 + 81 * p + 29 + i.toNat)
        · rw [if_pos (by rw [c3]), if_pos c3]
        · rw [if_neg (fun e => c3 ((jI_eq (by omega) (by omega) (by omega) (by omega)).mp e)), if_neg c3, show (1 : Int32) = jI 1 from rfl, jI_add]
          rw [show ((n + 1 : Nat) : Int) + 2 = (n : Int) + 2 + 1 by omega] at ih
          exact ih)
theorem r_kind {gh : Nat} {x : Nat} {K : XK} {h : XH} (I : Inv gh x K h) {p : Nat} (hp : (p : Int) < wd x h 1) (hq : 0 < wd x h (290 + 81 * p + 3)) {i : Int} (hi : 0 ≤ i ∧ i < wd x h (290 + 81 * p + 2)) : f_X12_kindOf x h (jI p) (jI i) = some (jI (kd_ (wd x h) p i)) := by
  have w1 := I.w1
  obtain ⟨-, -, -, -, -, -, p7, p8, -, -, -, -, p13, -⟩ := I.wp hp
  have sb := p13 i.toNat (by omega)
  have cc := r_card I hp (i := i) (by omega)
  have cb := cd_b (wd x h) p i
  have os := of_s (x := x) (h := h) (p := p) (i := i.toNat) (by omega) (by omega)
  rw [Int.toNat_of_nonneg hi.1] at os
  unfold f_X12_kindOf
  rw [show (29 : Int32) = jI 29 from rfl, jI_add, os, Option.bind_some, cc, Option.bind_some]
  unfold kd_
  by_cases c1 : wd x h (290 + 81 * p + 29 + i.toNat) = cd_ (wd x h) p i
  · rw [if_pos (by rw [c1]), if_pos c1]; rfl
  · rw [if_neg (fun e => c1 ((jI_eq (by omega) (by omega) (by omega) (by omega)).mp e)), if_neg c1]
    by_cases c2 : wd x h (290 + 81 * p + 29 + i.toNat) < 0
    · rw [if_neg (fun e => absurd ((jge0 (by omega) (by omega)).mp e) (by omega)), if_pos c2]; rfl
    · rw [if_pos ((jge0 (by omega) (by omega)).mpr (by omega)), if_neg c2]
      refine x_up0 (P := fun m n => f_X12_kindOf_31 x h m (jI p) (jI i) (jI (wd x h (290 + 81 * p + 29 + i.toNat))) (jI ((n : Int) + 2)) = some (jI (kf_ (sl_ (wd x h) p i) (wd x h (290 + 81 * p + 29 + i.toNat)) (4 - n) ((n : Int) + 2)))) 4 (by omega) (fun m => by
        unfold f_X12_kindOf_31
        rw [if_pos (by decide)]
        rfl) (fun m n hn ih => by
        have sb2 := sl_b I (p := p) (i := i) (k := (n : Int) + 2)
        unfold f_X12_kindOf_31
        rw [if_neg (show ¬ (6 : Int32) ≤ jI ((n : Int) + 2) from fun e => absurd ((jI_le (a := 6) (by omega) (by omega) (by omega) (by omega)).mp e) (by omega)), r_slip I hp hq hi (by omega), Option.bind_some, show 4 - n = 4 - (n + 1) + 1 by omega]
        unfold kf_
        by_cases c3 : sl_ (wd x h) p i ((n : Int) + 2) = wd x h (290 + 81 * p + 29 + i.toNat)
        · rw [if_pos (by rw [c3]), if_pos c3]
        · rw [if_neg (fun e => c3 ((jI_eq (by omega) (by omega) (by omega) (by omega)).mp e)), if_neg c3, show (1 : Int32) = jI 1 from rfl, jI_add]
          rw [show ((n + 1 : Nat) : Int) + 2 = (n : Int) + 2 + 1 by omega] at ih
          exact ih)
