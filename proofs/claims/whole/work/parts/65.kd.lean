/-! ===== slips and kinds ===== -/
theorem jm1 {z : Int} (a : -2147483648 ≤ z) (b : z < 2147483648) : jI z = (-1 : Int32) ↔ z = -1 := by
  rw [m1_]
  exact jI_eq a b (by omega) (by omega)
theorem jlt0 {z : Int} (a : -2147483648 ≤ z) (b : z < 2147483648) : jI z < (0 : Int32) ↔ z < 0 := jI_lt (b := 0) a b (by omega) (by omega)
theorem jge0 {z : Int} (a : -2147483648 ≤ z) (b : z < 2147483648) : (0 : Int32) ≤ jI z ↔ 0 ≤ z := jI_le (a := 0) (by omega) (by omega) a b
/-- the card with a role at a place -/
def cw_ (w : Nat → Int) (p : Nat) (pl ro : Int) : Int := if pl < 0 ∨ w (290 + 81 * p + 6) ≤ ro ∨ w (290 + 81 * p + 2) ≤ pl * w (290 + 81 * p + 6) + ro then -1 else cd_ w p (pl * w (290 + 81 * p + 6) + ro)
theorem cw_b {w : Nat → Int} {p : Nat} {pl ro : Int} : -1 ≤ cw_ w p pl ro ∧ cw_ w p pl ro < 52 := by
  have := cd_b w p (pl * w (290 + 81 * p + 6) + ro)
  unfold cw_
  split <;> omega
theorem mp_b {per pl : Int} (h1 : 1 ≤ per) (h3 : per ≤ 3) (a : -1 ≤ pl) (b : pl ≤ 60) : -3 ≤ pl * per ∧ pl * per ≤ 180 ∧ (0 ≤ pl → 0 ≤ pl * per) := by
  rcases (show per = 1 ∨ per = 2 ∨ per = 3 by omega) with e | e | e <;> subst e <;> omega
theorem c_cw {gh : Nat} {x : Nat} {K : XK} {h : XH} (I : Inv gh x K h) {p : Nat} (hp : (p : Int) < wd x h 1) (hq : 0 < wd x h (290 + 81 * p + 3)) {pl ro : Int} (h1 : -1 ≤ pl ∧ pl ≤ 60) (h2 : 0 ≤ ro ∧ ro ≤ 3) : f_X2_cardWith (x + 13 + 6 + 3 * p) h (jI pl) (jI ro) = jI (cw_ (wd x h) p pl ro) := by
  obtain ⟨-, -, -, -, -, -, p7, p8, -, -, p11, p12, -⟩ := I.wp hp
  obtain ⟨k1, k2, k3, k4, k5, k6⟩ := I.pk hp
  have l3 := (k6 hq).2.2.1
  have hm := mp_b p11 p12 h1.1 h1.2
  unfold f_X2_cardWith cw_
  rw [xl_, l3, k3, jI_mul, jI_add]
  by_cases c1 : pl < 0
  · rw [if_pos ((jlt0 (by omega) (by omega)).mpr c1), if_pos (Or.inl c1)]; rfl
  · rw [if_neg (fun e => c1 ((jlt0 (by omega) (by omega)).mp e))]
    by_cases c2 : wd x h (290 + 81 * p + 6) ≤ ro
    · rw [if_pos ((jI_le (by omega) (by omega) (by omega) (by omega)).mpr c2), if_pos (Or.inr (Or.inl c2))]; rfl
    · rw [if_neg (fun e => c2 ((jI_le (by omega) (by omega) (by omega) (by omega)).mp e))]
      have h0 := hm.2.2 (by omega)
      by_cases c3 : wd x h (290 + 81 * p + 2) ≤ pl * wd x h (290 + 81 * p + 6) + ro
      · rw [if_neg (fun e => absurd ((jI_lt (by omega) (by omega) (by omega) (by omega)).mp e) (by omega)), if_pos (Or.inr (Or.inr c3))]; rfl
      · rw [if_pos ((jI_lt (by omega) (by omega) (by omega) (by omega)).mpr (by omega)), if_neg (by omega), c_card I hp (by omega)]
theorem r_cw {gh : Nat} {x : Nat} {K : XK} {h : XH} (I : Inv gh x K h) {p : Nat} (hp : (p : Int) < wd x h 1) {pl ro : Int} (h1 : -1 ≤ pl ∧ pl ≤ 60) (h2 : 0 ≤ ro ∧ ro ≤ 3) : f_X12_cardAt x h (jI p) (jI pl) (jI ro) = some (jI (cw_ (wd x h) p pl ro)) := by
  have w1 := I.w1
  obtain ⟨-, -, -, -, -, -, p7, p8, -, -, p11, p12, -⟩ := I.wp hp
  have o6 : f_X12_of x h (jI p) 6 = some (jI (wd x h (290 + 81 * p + 6))) := of_6 (by omega)
  have o2 : f_X12_of x h (jI p) 2 = some (jI (wd x h (290 + 81 * p + 2))) := of_2 (by omega)
  have hm := mp_b p11 p12 h1.1 h1.2
  unfold f_X12_cardAt cw_ f_X12_cardAt_49
  rw [o6, Option.bind_some]
  by_cases c1 : pl < 0
  · rw [if_pos ((jlt0 (by omega) (by omega)).mpr c1), if_pos (Or.inl c1)]; rfl
  · rw [if_neg (fun e => c1 ((jlt0 (by omega) (by omega)).mp e)), Option.bind_some]
    by_cases c2 : wd x h (290 + 81 * p + 6) ≤ ro
    · rw [if_pos ((jI_le (by omega) (by omega) (by omega) (by omega)).mpr c2), if_pos (Or.inr (Or.inl c2))]; rfl
    · rw [if_neg (fun e => c2 ((jI_le (by omega) (by omega) (by omega) (by omega)).mp e)), o2, Option.bind_some, jI_mul, jI_add]
      have h0 := hm.2.2 (by omega)
      by_cases c3 : wd x h (290 + 81 * p + 2) ≤ pl * wd x h (290 + 81 * p + 6) + ro
      · rw [if_pos ((jI_le (by omega) (by omega) (by omega) (by omega)).mpr c3), if_pos (Or.inr (Or.inr c3))]; rfl
      · rw [if_neg (fun e => c3 ((jI_le (by omega) (by omega) (by omega) (by omega)).mp e)), if_neg (by omega), r_card I hp (by omega), Option.bind_some]
/-! the ghost -/
def go_ (w : Nat → Int) (p : Nat) (dr ro : Int) : Nat → Int × Int
  | 0 => (0, -1)
  | n + 1 => if 0 ≤ pa_ w n (w (290 + 81 * p + 4)) dr ∧ w (290 + 81 * n + 3) < w (290 + 81 * p + 3) ∧ (go_ w p dr ro n).1 < w (290 + 81 * n + 3) ∧ 0 ≤ cw_ w n (pa_ w n (w (290 + 81 * p + 4)) dr) ro then (w (290 + 81 * n + 3), cw_ w n (pa_ w n (w (290 + 81 * p + 4)) dr) ro) else go_ w p dr ro n
theorem go_y {w : Nat → Int} {p n : Nat} {dr ro : Int} (c : 0 ≤ pa_ w n (w (290 + 81 * p + 4)) dr ∧ w (290 + 81 * n + 3) < w (290 + 81 * p + 3) ∧ (go_ w p dr ro n).1 < w (290 + 81 * n + 3) ∧ 0 ≤ cw_ w n (pa_ w n (w (290 + 81 * p + 4)) dr) ro) : go_ w p dr ro (n + 1) = (w (290 + 81 * n + 3), cw_ w n (pa_ w n (w (290 + 81 * p + 4)) dr) ro) := if_pos c
theorem go_n {w : Nat → Int} {p n : Nat} {dr ro : Int} (c : ¬ (0 ≤ pa_ w n (w (290 + 81 * p + 4)) dr ∧ w (290 + 81 * n + 3) < w (290 + 81 * p + 3) ∧ (go_ w p dr ro n).1 < w (290 + 81 * n + 3) ∧ 0 ≤ cw_ w n (pa_ w n (w (290 + 81 * p + 4)) dr) ro)) : go_ w p dr ro (n + 1) = go_ w p dr ro n := if_neg c
theorem pa_u {w : Nat → Int} {q : Nat} {hs dr : Int} (c : 0 ≤ pa_ w q hs dr) : 0 < w (290 + 81 * q + 3) := by
  unfold pa_ at c
  by_cases e : 0 < w (290 + 81 * q + 3) ∧ w (290 + 81 * q + 4) = hs ∧ 0 ≤ dr - w (290 + 81 * q + 5) ∧ dr - w (290 + 81 * q + 5) < pc_ w q
  · exact e.1
  · rw [if_neg e] at c; omega
theorem go_b {gh : Nat} {x : Nat} {K : XK} {h : XH} (I : Inv gh x K h) {p : Nat} {dr ro : Int} : ∀ n : Nat, (n : Int) ≤ wd x h 1 → 0 ≤ (go_ (wd x h) p dr ro n).1 ∧ (go_ (wd x h) p dr ro n).1 ≤ 8 ∧ -1 ≤ (go_ (wd x h) p dr ro n).2 ∧ (go_ (wd x h) p dr ro n).2 < 52 ∧ ((go_ (wd x h) p dr ro n).1 = 0 ∨ ∃ q, q < n ∧ 0 < wd x h (290 + 81 * q + 3) ∧ (go_ (wd x h) p dr ro n).1 = wd x h (290 + 81 * q + 3)) := by
  have h7 := I.w7
  intro n
  induction n with
  | zero => intro _; exact ⟨show (0 : Int) ≤ 0 by decide, show (0 : Int) ≤ 8 by decide, show (-1 : Int) ≤ -1 by decide, show (-1 : Int) < 52 by decide, Or.inl rfl⟩
  | succ n ih =>
    intro hn
    obtain ⟨i1, i2, i3, i4, i5⟩ := ih (by omega)
    by_cases c : 0 ≤ pa_ (wd x h) n (wd x h (290 + 81 * p + 4)) dr ∧ wd x h (290 + 81 * n + 3) < wd x h (290 + 81 * p + 3) ∧ (go_ (wd x h) p dr ro n).1 < wd x h (290 + 81 * n + 3) ∧ 0 ≤ cw_ (wd x h) n (pa_ (wd x h) n (wd x h (290 + 81 * p + 4)) dr) ro
    · rw [go_y c]
      have hw := (I.wp (q := n) (by omega)).2.2.2.2.2.2.2.2.2.1
      have hc := cw_b (w := wd x h) (p := n) (pl := pa_ (wd x h) n (wd x h (290 + 81 * p + 4)) dr) (ro := ro)
      refine ⟨?_, ?_, hc.1, hc.2, Or.inr ⟨n, by omega, pa_u c.1, rfl⟩⟩
      · show 0 ≤ wd x h (290 + 81 * n + 3); omega
      · show wd x h (290 + 81 * n + 3) ≤ 8; omega
    · rw [go_n c]
      refine ⟨i1, i2, i3, i4, ?_⟩
      rcases i5 with e | ⟨q, e1, e2, e3⟩
      · exact Or.inl e
      · exact Or.inr ⟨q, by omega, e2, e3⟩
theorem c_gho {gh : Nat} {x : Nat} {K : XK} {h : XH} (I : Inv gh x K h) {p : Nat} (hp : (p : Int) < wd x h 1) (hq : 0 < wd x h (290 + 81 * p + 3)) {dr ro : Int} (h1 : 0 ≤ dr ∧ dr ≤ 100) (h2 : 0 ≤ ro ∧ ro ≤ 3) : f_X6_ghostAt x h (jI p) (jI dr) (jI ro) = some (jI (go_ (wd x h) p dr ro (wd x h 1).toNat).2) := by
  have w1 := I.w1
  have w0 := I.w0
  have w7 := I.w7
  obtain ⟨tm, q, P1, P2, P3, P4, P5, P6, P7⟩ := I.put hp hq
  obtain ⟨b1, b2, -⟩ := id P2
  have e4 := I.2.1.1.2.1
  unfold f_X6_ghostAt
  rw [if_pos (jI_b (by omega) (by omega) (by omega)), nat_ (by omega)]
  refine x_up0 (P := fun m n => f_X6_ghostAt_23 x h m (jI dr) (jI ro) (x + 13 + 6 + 3 * p + 1) (jI ((go_ (wd x h) p dr ro n).1 - 1)) (jI (go_ (wd x h) p dr ro n).2) (jI (n : Int)) = some (jI (go_ (wd x h) p dr ro (wd x h 1).toNat).2)) (wd x h 1).toNat (by omega) (fun m => by
    unfold f_X6_ghostAt_23
    rw [e4, if_pos ((jI_le (by omega) (by omega) (by omega) (by omega)).mpr (by omega))]) (fun m n hn ih => by
    have gb := go_b I (p := p) (dr := dr) (ro := ro) n (by omega)
    have hn1 : (n : Int) < wd x h 1 := by omega
    have pa := c_pat I hn1 (hs := wd x h (290 + 81 * p + 4)) (dr := dr) (by omega) h1
    have pb := pa_b I hn1 (hs := wd x h (290 + 81 * p + 4)) (dr := dr)
    have hw := (I.wp hn1).2.2.2.2.2.2.2.2
    have a1 : jI (n : Int) + 1 = jI ((n + 1 : Nat) : Int) := by
      rw [show (1 : Int32) = jI 1 from rfl, jI_add]
      rfl
    unfold f_X6_ghostAt_23
    rw [e4, if_neg (fun e => absurd ((jI_le (by omega) (by omega) (by omega) (by omega)).mp e) (by omega)), if_pos (jI_b (by omega) (by omega) (by omega)), nat_ (by omega), P1.1, pa, Option.bind_some, xl_, P1.2.2.2.2.2.2.2, a1]
    by_cases c1 : pa_ (wd x h) n (wd x h (290 + 81 * p + 4)) dr = -1
    · rw [if_pos ((jm1 (by omega) (by omega)).mpr c1), if_pos ((jm1 (by omega) (by omega)).mpr c1)]
      rw [go_n (by omega)] at ih
      exact ih
    · have un := pa_u (w := wd x h) (q := n) (hs := wd x h (290 + 81 * p + 4)) (dr := dr) (by omega)
      have o7 := ((I.pk hn1).2.2.2.2.2 un).2.2.2.2.2.1
      have cc := c_cw I hn1 un (pl := pa_ (wd x h) n (wd x h (290 + 81 * p + 4)) dr) (ro := ro) (by omega) h2
      have cb := cw_b (w := wd x h) (p := n) (pl := pa_ (wd x h) n (wd x h (290 + 81 * p + 4)) dr) (ro := ro)
      rw [if_neg (fun e => c1 ((jm1 (by omega) (by omega)).mp e)), if_neg (fun e => c1 ((jm1 (by omega) (by omega)).mp e)), o7, cc]
      by_cases c2 : wd x h (290 + 81 * n + 3) < wd x h (290 + 81 * p + 3)
      · have n2 : ¬ jI (wd x h (290 + 81 * p + 3) - 1) ≤ jI (wd x h (290 + 81 * n + 3) - 1) := fun e => absurd ((jI_le (by omega) (by omega) (by omega) (by omega)).mp e) (by omega)
        rw [if_neg n2, if_neg n2]
        by_cases c3 : (go_ (wd x h) p dr ro n).1 < wd x h (290 + 81 * n + 3)
        · have n3 : ¬ jI (wd x h (290 + 81 * n + 3) - 1) ≤ jI ((go_ (wd x h) p dr ro n).1 - 1) := fun e => absurd ((jI_le (by omega) (by omega) (by omega) (by omega)).mp e) (by omega)
          rw [if_neg n3, if_neg n3]
          by_cases c4 : 0 ≤ cw_ (wd x h) n (pa_ (wd x h) n (wd x h (290 + 81 * p + 4)) dr) ro
          · have n4 : ¬ jI (cw_ (wd x h) n (pa_ (wd x h) n (wd x h (290 + 81 * p + 4)) dr) ro) = (-1 : Int32) := fun e => absurd ((jm1 (by omega) (by omega)).mp e) (by omega)
            rw [if_neg n4, if_neg n4]
            rw [go_y ⟨by omega, c2, c3, c4⟩] at ih
            exact ih
          · have n4 : jI (cw_ (wd x h) n (pa_ (wd x h) n (wd x h (290 + 81 * p + 4)) dr) ro) = (-1 : Int32) := (jm1 (by omega) (by omega)).mpr (by omega)
            rw [if_pos n4, if_pos n4]
            rw [go_n (fun q => c4 q.2.2.2)] at ih
            exact ih
        · have n3 : jI (wd x h (290 + 81 * n + 3) - 1) ≤ jI ((go_ (wd x h) p dr ro n).1 - 1) := (jI_le (by omega) (by omega) (by omega) (by omega)).mpr (by omega)
          rw [if_pos n3, if_pos n3]
          rw [go_n (fun q => c3 q.2.2.1)] at ih
          exact ih
      · have n2 : jI (wd x h (290 + 81 * p + 3) - 1) ≤ jI (wd x h (290 + 81 * n + 3) - 1) := (jI_le (by omega) (by omega) (by omega) (by omega)).mpr (by omega)
        rw [if_pos n2, if_pos n2]
        rw [go_n (fun q => c2 q.2.1)] at ih
        exact ih)
theorem r_gho {gh : Nat} {x : Nat} {K : XK} {h : XH} (I : Inv gh x K h) {p : Nat} (hp : (p : Int) < wd x h 1) (hq : 0 < wd x h (290 + 81 * p + 3)) {pl ro : Int} (h1 : 0 ≤ pl ∧ pl ≤ 60) (h2 : 0 ≤ ro ∧ ro ≤ 3) : f_X12_ghostOf x h (jI p) (jI pl) (jI ro) = some (jI (go_ (wd x h) p (wd x h (290 + 81 * p + 5) + pl) ro (wd x h 1).toNat).2) := by
  have w1 := I.w1
  have w0 := I.w0
  have w7 := I.w7
  obtain ⟨tm, q, P1, P2, P3, P4, P5, P6, P7⟩ := I.put hp hq
  obtain ⟨b1, b2, b3, -⟩ := id P2
  have pcb := pc_b I hp
  have e1 : h.1 (x + 65) (1 : Int32).toNatClampNeg = jI (wd x h 1) := wd_j _ _ _
  have o5 : f_X12_of x h (jI p) 5 = some (jI (wd x h (290 + 81 * p + 5))) := of_5 (by omega)
  have o4 : f_X12_of x h (jI p) 4 = some (jI (wd x h (290 + 81 * p + 4))) := of_4 (by omega)
  have o3 : f_X12_of x h (jI p) 3 = some (jI (wd x h (290 + 81 * p + 3))) := of_3 (by omega)
  unfold f_X12_ghostOf
  rw [o5, Option.bind_some, jI_add]
  generalize hdr : wd x h (290 + 81 * p + 5) + pl = dr
  have hd : 0 ≤ dr ∧ dr ≤ 100 := by omega
  refine x_up0 (P := fun m n => f_X12_ghostOf_19 x h m (jI p) (jI ro) (jI dr) (jI (go_ (wd x h) p dr ro n).2) (jI (go_ (wd x h) p dr ro n).1) (jI (n : Int)) = some (jI (go_ (wd x h) p dr ro (wd x h 1).toNat).2)) (wd x h 1).toNat (by omega) (fun m => by
    unfold f_X12_ghostOf_19
    rw [if_pos (by decide), e1, if_pos ((jI_le (by omega) (by omega) (by omega) (by omega)).mpr (by omega))]) (fun m n hn ih => by
    have gb := go_b I (p := p) (dr := dr) (ro := ro) n (by omega)
    have hn1 : (n : Int) < wd x h 1 := by omega
    have pa := r_pat I hn1 (hs := wd x h (290 + 81 * p + 4)) (dr := dr) (by omega) hd
    have pb := pa_b I hn1 (hs := wd x h (290 + 81 * p + 4)) (dr := dr)
    have hw := (I.wp hn1).2.2.2.2.2.2.2.2
    have o3n : f_X12_of x h (jI n) 3 = some (jI (wd x h (290 + 81 * n + 3))) := of_3 (by omega)
    have a1 : jI (n : Int) + 1 = jI ((n + 1 : Nat) : Int) := by
      rw [show (1 : Int32) = jI 1 from rfl, jI_add]
      rfl
    unfold f_X12_ghostOf_19 f_X12_ghostOf_114
    rw [if_pos (by decide), e1, if_neg (fun e => absurd ((jI_le (by omega) (by omega) (by omega) (by omega)).mp e) (by omega)), o4, Option.bind_some, pa, Option.bind_some, a1]
    by_cases c1 : pa_ (wd x h) n (wd x h (290 + 81 * p + 4)) dr = -1
    · rw [if_pos ((jlt0 (by omega) (by omega)).mpr (by omega))]
      rw [go_n (by omega)] at ih
      exact ih
    · have un := pa_u (w := wd x h) (q := n) (hs := wd x h (290 + 81 * p + 4)) (dr := dr) (by omega)
      have cc := r_cw I hn1 (pl := pa_ (wd x h) n (wd x h (290 + 81 * p + 4)) dr) (ro := ro) (by omega) h2
      have cb := cw_b (w := wd x h) (p := n) (pl := pa_ (wd x h) n (wd x h (290 + 81 * p + 4)) dr) (ro := ro)
      rw [if_neg (fun e => absurd ((jlt0 (by omega) (by omega)).mp e) (by omega)), o3n, Option.bind_some, o3, Option.bind_some]
      by_cases c2 : wd x h (290 + 81 * n + 3) < wd x h (290 + 81 * p + 3)
      · rw [if_neg (fun e => absurd ((jI_le (by omega) (by omega) (by omega) (by omega)).mp e) (by omega)), Option.bind_some]
        by_cases c3 : (go_ (wd x h) p dr ro n).1 < wd x h (290 + 81 * n + 3)
        · rw [if_neg (fun e => absurd ((jI_lt (by omega) (by omega) (by omega) (by omega)).mp e) (by omega)), cc, Option.bind_some]
          by_cases c4 : 0 ≤ cw_ (wd x h) n (pa_ (wd x h) n (wd x h (290 + 81 * p + 4)) dr) ro
          · rw [if_pos ((jge0 (by omega) (by omega)).mpr c4), Option.bind_some, Option.bind_some]
            rw [go_y ⟨by omega, c2, c3, c4⟩] at ih
            exact ih
          · rw [if_neg (fun e => c4 ((jge0 (by omega) (by omega)).mp e))]
            rw [go_n (fun q => c4 q.2.2.2)] at ih
            exact ih
        · have lt : wd x h (290 + 81 * n + 3) < (go_ (wd x h) p dr ro n).1 := by
            rcases gb.2.2.2.2 with e | ⟨q, e1, e2, e3⟩
            · omega
            · have ne : wd x h (293 + 81 * q) ≠ wd x h (293 + 81 * n) := fun e => by
                have := I.1.2.2.2.2.1.1 q n (by omega) hn1 (by rw [show 293 + 81 * q = 290 + 81 * q + 3 by omega]; exact e2) e
                omega
              rw [show 293 + 81 * q = 290 + 81 * q + 3 by omega, show 293 + 81 * n = 290 + 81 * n + 3 by omega] at ne
              omega
          rw [if_pos ((jI_lt (by omega) (by omega) (by omega) (by omega)).mpr lt)]
          rw [go_n (fun q => c3 q.2.2.1)] at ih
          exact ih
      · rw [if_pos ((jI_le (by omega) (by omega) (by omega) (by omega)).mpr (by omega))]
        rw [go_n (fun q => c2 q.2.1)] at ih
        exact ih)
