/-! ===== alike, swapped, shifted ===== -/
def al_ (w : Nat → Int) (p : Nat) (pl ro : Int) : Nat → Nat → Int
  | 0, _ => -1
  | n + 1, k => if (k : Int) ≠ pl ∧ lk_ w (w (290 + 81 * p + 4)) (w (290 + 81 * p + 5) + k) = lk_ w (w (290 + 81 * p + 4)) (w (290 + 81 * p + 5) + pl) ∧ 0 ≤ cw_ w p k ro then cw_ w p k ro else al_ w p pl ro n (k + 1)
theorem al_b {w : Nat → Int} {p : Nat} {pl ro : Int} : ∀ n k, -1 ≤ al_ w p pl ro n k ∧ al_ w p pl ro n k < 52 := by
  intro n
  induction n with
  | zero => intro k; exact ⟨show (-1 : Int) ≤ -1 by decide, show (-1 : Int) < 52 by decide⟩
  | succ n ih =>
    intro k
    unfold al_
    split
    · exact cw_b
    · exact ih (k + 1)
theorem c_ali {gh : Nat} {x : Nat} {K : XK} {h : XH} (I : Inv gh x K h) {p : Nat} (hp : (p : Int) < wd x h 1) (hq : 0 < wd x h (290 + 81 * p + 3)) {pl ro : Int} (h1 : 0 ≤ pl ∧ pl < pc_ (wd x h) p) (h2 : 0 ≤ ro ∧ ro ≤ 3) : f_X6_alikeTo x h (x + 13 + 6 + 3 * p) (jI pl) (jI ro) = some (jI (al_ (wd x h) p pl ro (pc_ (wd x h) p).toNat 0)) := by
  have w1 := I.w1
  have w0 := I.w0
  obtain ⟨tm, q, P1, P2, P3, P4, P5, P6, P7⟩ := I.put hp hq
  obtain ⟨b1, b2, b3, b6, b7, b8, -⟩ := id P2
  have b8' : wd x h (290 + 81 * p + 5) + pc_ (wd x h) p ≤ wd x h (164 + 21 * (wd x h (290 + 81 * p + 4)).toNat) := b8
  have pcb := pc_b I hp
  have hpb := c_pby I hp b6 b7
  have lk0 := c_look I ⟨b1, b2⟩ (d := wd x h (290 + 81 * p + 5) + pl) (by omega)
  have lb := fun d (h1 : 0 ≤ d) (h2 : d < 20) => I.1.2.2.1.lk ⟨b1, b2⟩ (d := d) ⟨h1, h2⟩
  have lb0 := lb (wd x h (290 + 81 * p + 5) + pl) (by omega) (by omega)
  unfold f_X6_alikeTo f_X2_places
  rw [P1.1, P1.2.1, P1.2.2.1, jI_add, lk0, Option.bind_some, hpb, Option.bind_some]
  have key := x_up0 (P := fun m k => f_X6_alikeTo_38 x h m (x + 13 + 6 + 3 * p) (jI pl) (jI ro) (jI (wd x h (290 + 81 * p + 4))) (jI (lk_ (wd x h) (wd x h (290 + 81 * p + 4)) (wd x h (290 + 81 * p + 5) + pl))) (jI (pc_ (wd x h) p)) (jI (k : Int)) = some (jI (al_ (wd x h) p pl ro ((pc_ (wd x h) p).toNat - k) k))) (pc_ (wd x h) p).toNat (by omega) (fun m => by
    unfold f_X6_alikeTo_38
    rw [if_pos ((jI_le (by omega) (by omega) (by omega) (by omega)).mpr (by omega)), Nat.sub_self]
    rfl) (fun m k hk ih => by
    have a1 : jI (k : Int) + 1 = jI ((k + 1 : Nat) : Int) := by
      rw [show (1 : Int32) = jI 1 from rfl, jI_add]
      rfl
    have lkk := c_look I ⟨b1, b2⟩ (d := wd x h (290 + 81 * p + 5) + k) (by omega)
    have lbk := lb (wd x h (290 + 81 * p + 5) + k) (by omega) (by omega)
    have cc := c_cw I hp hq (pl := (k : Int)) (ro := ro) (by omega) h2
    have cb := cw_b (w := wd x h) (p := p) (pl := (k : Int)) (ro := ro)
    rw [show (pc_ (wd x h) p).toNat - k = (pc_ (wd x h) p).toNat - (k + 1) + 1 by omega]
    unfold f_X6_alikeTo_38 f_X6_alikeTo_94 al_
    rw [if_neg (fun e => absurd ((jI_le (by omega) (by omega) (by omega) (by omega)).mp e) (by omega)), a1]
    by_cases c1 : (k : Int) = pl
    · rw [if_pos (by rw [c1]), if_neg (fun q => q.1 c1)]
      exact ih
    · rw [if_neg (fun e => c1 ((jI_eq (by omega) (by omega) (by omega) (by omega)).mp e)), P1.2.1, jI_add, lkk, Option.bind_some]
      by_cases c2 : lk_ (wd x h) (wd x h (290 + 81 * p + 4)) (wd x h (290 + 81 * p + 5) + k) = lk_ (wd x h) (wd x h (290 + 81 * p + 4)) (wd x h (290 + 81 * p + 5) + pl)
      · rw [if_pos (by rw [c2]), cc]
        by_cases c3 : 0 ≤ cw_ (wd x h) p k ro
        · rw [if_neg (fun e => absurd ((jm1 (by omega) (by omega)).mp e) (by omega)), if_pos ⟨c1, c2, c3⟩]
        · rw [if_pos ((jm1 (by omega) (by omega)).mpr (by omega)), if_neg (fun q => c3 q.2.2)]
          exact ih
      · rw [if_neg (fun e => c2 ((jI_eq (by omega) (by omega) (by omega) (by omega)).mp e)), if_neg (fun q => c2 q.2.1)]
        exact ih)
  exact key
theorem r_ali {gh : Nat} {x : Nat} {K : XK} {h : XH} (I : Inv gh x K h) {p : Nat} (hp : (p : Int) < wd x h 1) (hq : 0 < wd x h (290 + 81 * p + 3)) {pl ro : Int} (h1 : 0 ≤ pl ∧ pl < pc_ (wd x h) p) (h2 : 0 ≤ ro ∧ ro ≤ 3) : f_X12_alikeOf x h (jI p) (jI pl) (jI ro) = some (jI (al_ (wd x h) p pl ro (pc_ (wd x h) p).toNat 0)) := by
  have w1 := I.w1
  have w0 := I.w0
  obtain ⟨tm, q, P1, P2, P3, P4, P5, P6, P7⟩ := I.put hp hq
  obtain ⟨b1, b2, b3, b6, b7, b8, -⟩ := id P2
  have pcb := pc_b I hp
  have rp := r_places I hp
  have o5 : f_X12_of x h (jI p) 5 = some (jI (wd x h (290 + 81 * p + 5))) := of_5 (by omega)
  have o4 : f_X12_of x h (jI p) 4 = some (jI (wd x h (290 + 81 * p + 4))) := of_4 (by omega)
  have lk0 := r_look I ⟨b1, b2⟩ (d := wd x h (290 + 81 * p + 5) + pl) (by omega)
  have lb := fun d (h1 : 0 ≤ d) (h2 : d < 20) => I.1.2.2.1.lk ⟨b1, b2⟩ (d := d) ⟨h1, h2⟩
  have lb0 := lb (wd x h (290 + 81 * p + 5) + pl) (by omega) (by omega)
  unfold f_X12_alikeOf
  rw [o4, Option.bind_some, o5, Option.bind_some]
  have key := x_up0 (P := fun m k => f_X12_alikeOf_19 x h m (jI p) (jI pl) (jI ro) (jI (wd x h (290 + 81 * p + 4))) (jI (wd x h (290 + 81 * p + 5))) (jI (k : Int)) = some (jI (al_ (wd x h) p pl ro ((pc_ (wd x h) p).toNat - k) k))) (pc_ (wd x h) p).toNat (by omega) (fun m => by
    unfold f_X12_alikeOf_19
    rw [rp, Option.bind_some, if_pos ((jI_le (by omega) (by omega) (by omega) (by omega)).mpr (by omega)), Nat.sub_self]
    rfl) (fun m k hk ih => by
    have a1 : jI (k : Int) + 1 = jI ((k + 1 : Nat) : Int) := by
      rw [show (1 : Int32) = jI 1 from rfl, jI_add]
      rfl
    have lkk := r_look I ⟨b1, b2⟩ (d := wd x h (290 + 81 * p + 5) + k) (by omega)
    have lbk := lb (wd x h (290 + 81 * p + 5) + k) (by omega) (by omega)
    have cc := r_cw I hp (pl := (k : Int)) (ro := ro) (by omega) h2
    have cb := cw_b (w := wd x h) (p := p) (pl := (k : Int)) (ro := ro)
    rw [show (pc_ (wd x h) p).toNat - k = (pc_ (wd x h) p).toNat - (k + 1) + 1 by omega]
    unfold f_X12_alikeOf_19 f_X12_alikeOf_79 al_
    rw [rp, Option.bind_some, if_neg (fun e => absurd ((jI_le (by omega) (by omega) (by omega) (by omega)).mp e) (by omega)), a1]
    by_cases c1 : (k : Int) = pl
    · rw [if_pos (by rw [c1]), if_neg (fun q => q.1 c1)]
      exact ih
    · rw [if_neg (fun e => c1 ((jI_eq (by omega) (by omega) (by omega) (by omega)).mp e)), jI_add, jI_add, lkk, Option.bind_some, lk0, Option.bind_some]
      by_cases c2 : lk_ (wd x h) (wd x h (290 + 81 * p + 4)) (wd x h (290 + 81 * p + 5) + k) = lk_ (wd x h) (wd x h (290 + 81 * p + 4)) (wd x h (290 + 81 * p + 5) + pl)
      · rw [if_pos (by rw [c2]), cc, Option.bind_some]
        by_cases c3 : 0 ≤ cw_ (wd x h) p k ro
        · rw [if_neg (fun e => absurd ((jlt0 (by omega) (by omega)).mp e) (by omega)), Option.bind_some, if_pos ⟨c1, c2, c3⟩]
        · rw [if_pos ((jlt0 (by omega) (by omega)).mpr (by omega)), if_neg (fun q => c3 q.2.2)]
          exact ih
      · rw [if_neg (fun e => c2 ((jI_eq (by omega) (by omega) (by omega) (by omega)).mp e)), if_neg (fun q => c2 q.2.1)]
        exact ih)
  exact key
/-- the next card of the place, the first one for its last -/
def sp_ (w : Nat → Int) (p : Nat) (pl ro : Int) : Int := if (if 0 ≤ cw_ w p pl (ro + 1) then ro + 1 else 0) = ro then -1 else cw_ w p pl (if 0 ≤ cw_ w p pl (ro + 1) then ro + 1 else 0)
theorem cw_p {w : Nat → Int} {p : Nat} {pl ro : Int} (h0 : 0 ≤ pl) : 0 ≤ cw_ w p pl ro ↔ ro < w (290 + 81 * p + 6) ∧ pl * w (290 + 81 * p + 6) + ro < w (290 + 81 * p + 2) := by
  have := cd_b w p (pl * w (290 + 81 * p + 6) + ro)
  unfold cw_
  split <;> omega
theorem sp_b {w : Nat → Int} {p : Nat} {pl ro : Int} : -1 ≤ sp_ w p pl ro ∧ sp_ w p pl ro < 52 := by
  unfold sp_
  generalize (if 0 ≤ cw_ w p pl (ro + 1) then ro + 1 else 0) = n
  split
  · omega
  · exact cw_b
theorem c_swp {gh : Nat} {x : Nat} {K : XK} {h : XH} (I : Inv gh x K h) {p : Nat} (hp : (p : Int) < wd x h 1) (hq : 0 < wd x h (290 + 81 * p + 3)) {pl ro : Int} (h1 : 0 ≤ pl ∧ pl ≤ 60) (h2 : 0 ≤ ro ∧ ro < wd x h (290 + 81 * p + 6)) (hc : pl * wd x h (290 + 81 * p + 6) + ro < wd x h (290 + 81 * p + 2)) : f_X6_swappedWith x h (x + 13 + 6 + 3 * p) (jI pl) (jI ro) = jI (sp_ (wd x h) p pl ro) := by
  obtain ⟨-, -, -, -, -, -, p7, p8, -, -, p11, p12, -⟩ := I.wp hp
  obtain ⟨k1, k2, k3, k4, k5, k6⟩ := I.pk hp
  have l3 := (k6 hq).2.2.1
  have hm := mp_b p11 p12 (by omega : -1 ≤ pl) h1.2
  have hm0 := hm.2.2 h1.1
  have cw := cw_p (w := wd x h) (p := p) (pl := pl) (ro := ro + 1) h1.1
  generalize hC : (if wd x h (290 + 81 * p + 6) ≤ wd x h (290 + 81 * p + 2) - pl * wd x h (290 + 81 * p + 6) then wd x h (290 + 81 * p + 6) else wd x h (290 + 81 * p + 2) - pl * wd x h (290 + 81 * p + 6)) = C
  have ca : f_X2_cardsAt (x + 13 + 6 + 3 * p) h (jI pl) = jI C := by
    unfold f_X2_cardsAt f_J9_min_7cf53
    rw [l3, k3, jI_mul, jI_sub, ← hC]
    by_cases e : wd x h (290 + 81 * p + 6) ≤ wd x h (290 + 81 * p + 2) - pl * wd x h (290 + 81 * p + 6)
    · rw [if_pos e]
      by_cases e2 : wd x h (290 + 81 * p + 2) - pl * wd x h (290 + 81 * p + 6) < wd x h (290 + 81 * p + 6)
      · omega
      · split
        · rename_i q
          first | rfl | (have := (jI_lt (by omega) (by omega) (by omega) (by omega)).mp q; first | omega | (congr 1; omega))
        · rename_i q
          first | rfl | (congr 1; have : ¬ _ := fun z => q ((jI_lt (by omega) (by omega) (by omega) (by omega)).mpr z); omega)
    · rw [if_neg e]
      split
      · rename_i q
        first | rfl | (have := (jI_lt (by omega) (by omega) (by omega) (by omega)).mp q; first | omega | (congr 1; omega))
      · rename_i q
        first | rfl | (congr 1; have : ¬ _ := fun z => q ((jI_lt (by omega) (by omega) (by omega) (by omega)).mpr z); omega)
  have hCb : 1 ≤ C ∧ C ≤ 3 ∧ ro < C ∧ (ro + 1 < C ↔ 0 ≤ cw_ (wd x h) p pl (ro + 1)) := by
    rw [cw, ← hC]
    split <;> omega
  unfold f_X6_swappedWith sp_
  rw [ca, show (1 : Int32) = jI 1 from rfl, jI_add]
  by_cases c1 : 2 ≤ C
  · rw [if_pos (show (2 : Int32) ≤ jI C from (jI_le (a := 2) (by omega) (by omega) (by omega) (by omega)).mpr c1)]
    by_cases c2 : ro + 1 < C
    · rw [if_neg (fun e => absurd ((jI_le (by omega) (by omega) (by omega) (by omega)).mp e) (by omega)), c_cw I hp hq (by omega) (by omega), if_pos (hCb.2.2.2.mp c2), if_neg (by omega)]
    · rw [if_pos ((jI_le (by omega) (by omega) (by omega) (by omega)).mpr (by omega)), show (0 : Int32) = jI 0 from rfl, c_cw I hp hq (by omega) (by omega), if_neg (fun q => c2 (hCb.2.2.2.mpr q)), if_neg (by omega)]
  · rw [if_neg (show ¬ (2 : Int32) ≤ jI C from fun e => c1 ((jI_le (a := 2) (by omega) (by omega) (by omega) (by omega)).mp e)), if_neg (fun q => absurd (hCb.2.2.2.mpr q) (by omega)), if_pos (by omega)]
    rfl
def sf_ (w : Nat → Int) (p : Nat) (pl ro : Int) : Int := if 0 ≤ cw_ w p (pl + 1) ro then cw_ w p (pl + 1) ro else cw_ w p (pl - 1) ro
theorem sf_b {w : Nat → Int} {p : Nat} {pl ro : Int} : -1 ≤ sf_ w p pl ro ∧ sf_ w p pl ro < 52 := by
  unfold sf_
  split <;> exact cw_b
/-- the slips of card i: kinds 2 to 5 -/
def sl_ (w : Nat → Int) (p : Nat) (i : Int) (k : Int) : Int :=
  if k = 2 then (go_ w p (w (290 + 81 * p + 5) + i / w (290 + 81 * p + 6)) (i % w (290 + 81 * p + 6)) (w 1).toNat).2
  else if k = 3 then al_ w p (i / w (290 + 81 * p + 6)) (i % w (290 + 81 * p + 6)) (pc_ w p).toNat 0
  else if k = 4 then sp_ w p (i / w (290 + 81 * p + 6)) (i % w (290 + 81 * p + 6))
  else sf_ w p (i / w (290 + 81 * p + 6)) (i % w (290 + 81 * p + 6))
theorem sl_b {gh : Nat} {x : Nat} {K : XK} {h : XH} (I : Inv gh x K h) {p : Nat} {i k : Int} : -1 ≤ sl_ (wd x h) p i k ∧ sl_ (wd x h) p i k < 52 := by
  have w1 := I.w1
  have := go_b I (p := p) (dr := wd x h (290 + 81 * p + 5) + i / wd x h (290 + 81 * p + 6)) (ro := i % wd x h (290 + 81 * p + 6)) (wd x h 1).toNat (by omega)
  unfold sl_
  split
  · exact ⟨this.2.2.1, this.2.2.2.1⟩
  · split
    · exact al_b _ _
    · split
      · exact sp_b
      · exact sf_b
