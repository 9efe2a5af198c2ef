/-! ===== houses needed ===== -/
theorem fill_ {K : XK} {h : XH} {v0 n : Nat} {v : Int} (hK : (K v0).2 = n) (hn : n < 50000) : f_J7_fill_53178 K h v0 (jI v) = some (wr_ v0 0 (fun _ => v) n h) := by
  unfold f_J7_fill_53178
  rw [hK, jI_nI]
  refine x_up0 (P := fun m i => f_J7_fill_53178_5 K m (wr_ v0 0 (fun _ => v) i h) v0 (jI v) (jI (i : Int)) (jI (n : Int)) = some (wr_ v0 0 (fun _ => v) n h)) n (by omega) (fun m => by
    unfold f_J7_fill_53178_5
    rw [if_pos ((jI_le (by omega) (by omega) (by omega) (by omega)).mpr (by omega))]) (fun m i hi ih => by
    have a1 : jI (i : Int) + 1 = jI ((i + 1 : Nat) : Int) := by
      rw [show (1 : Int32) = jI 1 from rfl, jI_add]
      rfl
    unfold f_J7_fill_53178_5
    rw [if_neg (fun e => absurd ((jI_le (by omega) (by omega) (by omega) (by omega)).mp e) (by omega)), hK, if_pos (jI_b (by omega) (by omega) (by omega)), xl_, nat_ (by omega), a1]
    have e : x_i (wr_ v0 0 (fun _ => v) i h) v0 i (jI v) = wr_ v0 0 (fun _ => v) (i + 1) h := by
      show _ = x_i (wr_ v0 0 (fun _ => v) i h) v0 (0 + i) (jI v)
      rw [Nat.zero_add]
    rw [e]
    exact ih)
def ht_ (old sec s : Int) : Int := if s = 0 then sec else if s = 2 then old else if s = 6 then 3 else 0
theorem ht_k {old sec : Int} (h1 : 0 ≤ old ∧ old ≤ 60) (h2 : 0 ≤ sec ∧ sec ≤ 60) : gk_ false (ht_ old sec) := by
  refine ⟨fun s s0 s1 _ => ?_, Or.inl (by simp [ht_]), fun _ => Or.inl (by simp [ht_])⟩
  unfold ht_
  split
  · omega
  · split
    · omega
    · split <;> omega
def hs_ (w : Nat → Int) (t : Nat) (old sec : Int) : Int := cl_ (tl_ w (970 + 851 * t) (ht_ old sec))
theorem c_turn {gh : Nat} {x : Nat} {K : XK} {h : XH} (I : Inv gh x K h) (T : (K (x + 44)).2 = 10) {t r : Nat} (c : CTx x K h r (wd x h) (970 + 851 * t) false) (hx : WTx (wd x h) (970 + 851 * t) false) {old sec : Int} (h1 : 0 ≤ old ∧ old ≤ 60) (h2 : 0 ≤ sec ∧ sec ≤ 60) :
    ∃ hh, f_X5_heldByTurns K x h (some r) (jI old) (jI sec) = some (jI (hs_ (wd x h) t old sec), hh) ∧ (∀ a, a ≠ x + 44 → a ≠ x + 45 → hh.1 a = h.1 a) ∧ hh.2 = h.2 := by
  have hr := c.1
  have fl := fill_ (h := h) (v0 := x + 44) (v := 0) T (by omega)
  generalize hH : x_i (x_i (x_i (wr_ (x + 44) 0 (fun _ => 0) 10 h) (x + 44) 2 (jI old)) (x + 44) 0 (jI sec)) (x + 44) 6 (jI 3) = H
  have fH : ∀ a, a ≠ x + 44 → H.1 a = h.1 a := fun a ha => by rw [← hH, gi_n ha, gi_n ha, gi_n ha, wr_n ha]
  have gH : H.2 = h.2 := by
    rw [← hH]
    show (wr_ (x + 44) 0 (fun _ => 0) 10 h).2 = h.2
    exact wr_2
  have c4 : CTx x K H r (wd x h) (970 + 851 * t) false := c.c ⟨hx.1, hx.2.1⟩ (fun _ _ _ => rfl) (fun a q1 _ => fH a (by omega)) (fun _ _ _ => rfl)
  have f4 : fx_ x H false (ht_ old sec) := fun s s0 s1 _ => by
    rw [if_neg (by simp), ← hH]
    have wz : (wr_ (x + 44) 0 (fun _ => 0) 10 h).1 (x + 44) (0 + s.toNat) = jI 0 := wr_i (by omega)
    rw [Nat.zero_add] at wz
    unfold ht_
    by_cases e6 : s = 6
    · subst e6; simp [gi_]
    · rw [gi_k (by omega)]
      by_cases e0 : s = 0
      · subst e0; simp [gi_]
      · rw [gi_k (by omega)]
        by_cases e2 : s = 2
        · subst e2; simp [gi_]
        · rw [gi_k (by omega), wz, if_neg e0, if_neg e2, if_neg e6]
  obtain ⟨hh, g1, g2, g3⟩ := c_held c4 hx f4 (ht_k h1 h2)
  refine ⟨hh, ?_, fun a n1 n2 => by rw [g2 a n2, fH a n1], by rw [g3, gH]⟩
  have t0 : (0 : Int32).toNatClampNeg = 0 := rfl
  have t2 : (2 : Int32).toNatClampNeg = 2 := rfl
  have t6 : (6 : Int32).toNatClampNeg = 6 := rfl
  have fl' : f_J7_fill_53178 K h (x + 44) 0 = _ := fl
  unfold f_X5_heldByTurns
  rw [fl', Option.bind_some, if_pos (by decide), xl_, t2, if_pos (by decide), xl_, t0, if_pos (by decide), xl_, t6, show (3 : Int32) = jI 3 from rfl, hH, g1, Option.bind_some]
  rfl
/-- the first number at which f is not below -/
def s1_ (f : Int → Int) (l : Int) : Nat → Int → Int
  | 0, _ => -1
  | n + 1, k => if f k < l then s1_ f l n (k + 1) else k
theorem c_hous {gh : Nat} {x : Nat} {K : XK} {h : XH} (I : Inv gh x K h) (T : (K (x + 44)).2 = 10) {t : Nat} (ht : (t : Int) < wd x h 2) {pk sec l : Int} (h1 : 1 ≤ pk ∧ pk ≤ 60) (h2 : 1 ≤ sec ∧ sec ≤ 60) (h3 : 0 ≤ l ∧ l ≤ 100) : ∃ hh, f_X11_houses_47 K x x_FU h (jI t) (jI pk) (jI sec) (jI l) (jI 1) = some (.inr (jI (s1_ (fun k => hs_ (wd x h) t ((pk - 1) / k) sec) l 20 1)), hh) ∧ (∀ a, a ≠ x + 44 → a ≠ x + 45 → hh.1 a = h.1 a) ∧ hh.2 = h.2 := by
  have w2 := I.w2
  obtain ⟨r, hr, ct⟩ := I.law ht
  have hx := I.wl ht
  have rr := ct.1
  have key := x_up0 (P := fun m n => ∀ h1 : XH, (∀ a, a ≠ x + 44 → a ≠ x + 45 → h1.1 a = h.1 a) → h1.2 = h.2 → ∃ h2, f_X11_houses_47 K x m h1 (jI t) (jI pk) (jI sec) (jI l) (jI ((n : Int) + 1)) = some (.inr (jI (s1_ (fun k => hs_ (wd x h) t ((pk - 1) / k) sec) l (20 - n) ((n : Int) + 1))), h2) ∧ (∀ a, a ≠ x + 44 → a ≠ x + 45 → h2.1 a = h.1 a) ∧ h2.2 = h.2) 20 (by omega) (fun m h1 f1 f2 => by
    refine ⟨h1, ?_, f1, f2⟩
    unfold f_X11_houses_47
    rw [if_pos (by decide)]
    rfl) (fun m n hn ih => by
    intro h1 f1 f2
    have F : Fr x h h1 := Fr.o2 f1 f2 (by decide) (by decide)
    have c' : CTx x K h1 r (wd x h) (970 + 851 * t) false := ct.c ⟨hx.1, hx.2.1⟩ (fun _ _ _ => rfl) (fun a q1 _ => f1 a (by omega) (by omega)) (fun _ _ _ => rfl)
    have q0 : 0 ≤ (pk - 1) / ((n : Int) + 1) := Int.ediv_nonneg (by omega) (by omega)
    have q1 : (pk - 1) / ((n : Int) + 1) ≤ pk - 1 := Int.ediv_le_self _ (by omega)
    have s1 := c_turn (I.fr F) T (t := t) (r := r) (by rw [F.ew]; exact c') (by rw [F.ew]; exact hx) (old := (pk - 1) / ((n : Int) + 1)) (sec := sec) (by omega) (by omega)
    rw [F.ew] at s1
    obtain ⟨h3, s1, s2, s3⟩ := s1
    have hb : 0 ≤ hs_ (wd x h) t ((pk - 1) / ((n : Int) + 1)) sec ∧ hs_ (wd x h) t ((pk - 1) / ((n : Int) + 1)) sec ≤ 100 := cl_b _
    have f3 : ∀ a, a ≠ x + 44 → a ≠ x + 45 → h3.1 a = h.1 a := fun a q1 q2 => by rw [s2 a q1 q2, f1 a q1 q2]
    have g3 : h3.2 = h.2 := by rw [s3, f2]
    have st : f_X11_houses_47 K x (m + 1) h1 (jI t) (jI pk) (jI sec) (jI l) (jI ((n : Int) + 1)) = if jI (hs_ (wd x h) t ((pk - 1) / ((n : Int) + 1)) sec) < jI l then f_X11_houses_47 K x m h3 (jI t) (jI pk) (jI sec) (jI l) (jI ((n : Int) + 1 + 1)) else some (.inr (jI ((n : Int) + 1)), h3) := by
      rw [f_X11_houses_47, if_neg (show ¬ (20 : Int32) < jI ((n : Int) + 1) from fun e => absurd ((jI_lt (a := 20) (by omega) (by omega) (by omega) (by omega)).mp e) (by omega)), if_pos (jI_b (by omega) (by omega) (by omega)), if_neg (j_ne0 (by omega) (by omega) (by omega)), nat_ (by omega), show h1.2.2 (x + 14) t = some r by rw [f2]; exact hr, show (1 : Int32) = jI 1 from rfl, jI_sub, jI_div (by omega) (by omega) (by omega) (by omega), s1, Option.bind_some, jI_add]
    rw [st, show 20 - n = 20 - (n + 1) + 1 by omega]
    unfold s1_
    by_cases c : hs_ (wd x h) t ((pk - 1) / ((n : Int) + 1)) sec < l
    · rw [if_pos ((jI_lt (by omega) (by omega) (by omega) (by omega)).mpr c), if_pos c]
      have k := ih h3 f3 g3
      rw [show ((n + 1 : Nat) : Int) + 1 = (n : Int) + 1 + 1 by omega] at k
      exact k
    · rw [if_neg (fun e => c ((jI_lt (by omega) (by omega) (by omega) (by omega)).mp e)), if_neg c]
      exact ⟨h3, rfl, f3, g3⟩)
  exact key h (fun _ _ _ => rfl) rfl
theorem r_h74 {gh : Nat} {x : Nat} {K : XK} {h : XH} (I : Inv gh x K h) {k64 : XH → Int32 → Int32 → Int32 → Int32 → Int32 → Option (Int32 × XH)} {t : Nat} (ht : (t : Int) < wd x h 2) {pk sec k : Int} {l : Int32} (h1 : 1 ≤ pk ∧ pk ≤ 60) (h2 : 1 ≤ sec ∧ sec ≤ 60) (hk : 1 ≤ k ∧ k ≤ 20) :
    ∃ hh, f_X12_houses_74 k64 x x_FU h (jI t) (jI pk) (jI sec) l (jI k) (jI 0) = (if jI (hs_ (wd x h) t ((pk - 1) / k) sec) < l then k64 hh (jI t) (jI pk) (jI sec) l (jI (k + 1)) else some (jI k, hh)) ∧ (∀ a, a ≠ x + 69 → a ≠ x + 70 → hh.1 a = h.1 a) ∧ hh.2 = h.2 := by
  have q0 : 0 ≤ (pk - 1) / k := Int.ediv_nonneg (by omega) (by omega)
  have q1 : (pk - 1) / k ≤ pk - 1 := Int.ediv_le_self _ (by omega)
  generalize hH : x_i (x_i (x_i (wr_ (x + 69) 0 (fun _ => 0) 10 h) (x + 69) 0 (jI sec)) (x + 69) 6 (jI 3)) (x + 69) 2 (jI ((pk - 1) / k)) = H
  have fH : ∀ a, a ≠ x + 69 → H.1 a = h.1 a := fun a ha => by rw [← hH, gi_n ha, gi_n ha, gi_n ha, wr_n ha]
  have gH : H.2 = h.2 := by
    rw [← hH]
    show (wr_ (x + 69) 0 (fun _ => 0) 10 h).2 = h.2
    exact wr_2
  have F : Fr x h H := Fr.o1 fH gH (by decide)
  have rf : RF x H (ht_ ((pk - 1) / k) sec) := fun s s0 s1 => by
    rw [← hH]
    have wz : (wr_ (x + 69) 0 (fun _ => 0) 10 h).1 (x + 69) (0 + s.toNat) = jI 0 := wr_i (by omega)
    rw [Nat.zero_add] at wz
    unfold ht_
    by_cases e2 : s = 2
    · subst e2; simp [gi_]
    · rw [gi_k (by omega)]
      by_cases e6 : s = 6
      · subst e6; simp [gi_]
      · rw [gi_k (by omega)]
        by_cases e0 : s = 0
        · subst e0; simp [gi_]
        · rw [gi_k (by omega), wz, if_neg e0, if_neg e2, if_neg e6]
  have hd := r_hold (I.fr F) (t := t) (by rw [F.ew]; exact ht) rf (ht_k ⟨q0, by omega⟩ (by omega))
  rw [F.ew] at hd
  obtain ⟨hh, g1, g2, g3⟩ := hd
  refine ⟨hh, ?_, fun a n1 n2 => by rw [g2 a n2, fH a n1], by rw [g3, gH]⟩
  refine x_up0 (P := fun m i => f_X12_houses_74 k64 x m (wr_ (x + 69) 0 (fun _ => 0) i h) (jI t) (jI pk) (jI sec) l (jI k) (jI (i : Int)) = (if jI (hs_ (wd x h) t ((pk - 1) / k) sec) < l then k64 hh (jI t) (jI pk) (jI sec) l (jI (k + 1)) else some (jI k, hh))) 10 (by omega) (fun m => by
    have t0 : (0 : Int32).toNatClampNeg = 0 := rfl
    have t2 : (2 : Int32).toNatClampNeg = 2 := rfl
    have t6 : (6 : Int32).toNatClampNeg = 6 := rfl
    unfold f_X12_houses_74
    rw [if_pos (by decide), if_pos (by decide), xl_, t0, if_pos (by decide), xl_, t6, if_neg (j_ne0 (by omega) (by omega) (by omega)), if_pos (by decide), xl_, t2, show (1 : Int32) = jI 1 from rfl, jI_sub, jI_div (by omega) (by omega) (by omega) (by omega), show (3 : Int32) = jI 3 from rfl, hH, g1, Option.bind_some, jI_add]
    rfl) (fun m i hi ih => by
    have a1 : jI (i : Int) + 1 = jI ((i + 1 : Nat) : Int) := by
      rw [show (1 : Int32) = jI 1 from rfl, jI_add]
      rfl
    rw [f_X12_houses_74, if_neg (show ¬ (10 : Int32) ≤ jI (i : Int) from fun e => absurd ((jI_le (a := 10) (by omega) (by omega) (by omega) (by omega)).mp e) (by omega)), if_pos (jI_b (by omega) (by omega) (by omega)), xl_, nat_ (by omega), a1]
    have e : x_i (wr_ (x + 69) 0 (fun _ => 0) i h) (x + 69) i 0 = wr_ (x + 69) 0 (fun _ => 0) (i + 1) h := by
      show _ = x_i (wr_ (x + 69) 0 (fun _ => 0) i h) (x + 69) (0 + i) (jI 0)
      rw [Nat.zero_add]
      rfl
    rw [e]
    exact ih)
theorem r_hous {gh : Nat} {x : Nat} {K : XK} {h : XH} (I : Inv gh x K h) {t : Nat} (ht : (t : Int) < wd x h 2) {pk sec l : Int} (h1 : 1 ≤ pk ∧ pk ≤ 60) (h2 : 1 ≤ sec ∧ sec ≤ 60) (h3 : 0 ≤ l ∧ l ≤ 100) : ∃ hh, f_X12_houses_64 x x_FU h (jI t) (jI pk) (jI sec) (jI l) (jI 1) = some (jI (s1_ (fun k => hs_ (wd x h) t ((pk - 1) / k) sec) l 20 1), hh) ∧ (∀ a, a ≠ x + 69 → a ≠ x + 70 → hh.1 a = h.1 a) ∧ hh.2 = h.2 := by
  have key := x_up0 (P := fun m n => ∀ h1 : XH, (∀ a, a ≠ x + 69 → a ≠ x + 70 → h1.1 a = h.1 a) → h1.2 = h.2 → ∃ h2, f_X12_houses_64 x m h1 (jI t) (jI pk) (jI sec) (jI l) (jI ((n : Int) + 1)) = some (jI (s1_ (fun k => hs_ (wd x h) t ((pk - 1) / k) sec) l (20 - n) ((n : Int) + 1)), h2) ∧ (∀ a, a ≠ x + 69 → a ≠ x + 70 → h2.1 a = h.1 a) ∧ h2.2 = h.2) 20 (by omega) (fun m h1 f1 f2 => by
    refine ⟨h1, ?_, f1, f2⟩
    unfold f_X12_houses_64
    rw [if_pos (by decide)]
    rfl) (fun m n hn ih => by
    intro h1 f1 f2
    have F : Fr x h h1 := Fr.o2 f1 f2 (by decide) (by decide)
    have s1 := r_h74 (I.fr F) (k64 := f_X12_houses_64 x m) (t := t) (by rw [F.ew]; exact ht) (pk := pk) (sec := sec) (k := (n : Int) + 1) (l := jI l) (by omega) (by omega) (by omega)
    rw [F.ew] at s1
    obtain ⟨h3, s1, s2, s3⟩ := s1
    have hb : 0 ≤ hs_ (wd x h) t ((pk - 1) / ((n : Int) + 1)) sec ∧ hs_ (wd x h) t ((pk - 1) / ((n : Int) + 1)) sec ≤ 100 := cl_b _
    have f3 : ∀ a, a ≠ x + 69 → a ≠ x + 70 → h3.1 a = h.1 a := fun a q1 q2 => by rw [s2 a q1 q2, f1 a q1 q2]
    have g3 : h3.2 = h.2 := by rw [s3, f2]
    rw [f_X12_houses_64, if_neg (show ¬ (20 : Int32) < jI ((n : Int) + 1) from fun e => absurd ((jI_lt (a := 20) (by omega) (by omega) (by omega) (by omega)).mp e) (by omega)), show (0 : Int32) = jI 0 from rfl, s1, show 20 - n = 20 - (n + 1) + 1 by omega]
    unfold s1_
    by_cases c : hs_ (wd x h) t ((pk - 1) / ((n : Int) + 1)) sec < l
    · rw [if_pos ((jI_lt (by omega) (by omega) (by omega) (by omega)).mpr c), if_pos c]
      have k := ih h3 f3 g3
      rw [show ((n + 1 : Nat) : Int) + 1 = (n : Int) + 1 + 1 by omega] at k
      exact k
    · rw [if_neg (fun e => c ((jI_lt (by omega) (by omega) (by omega) (by omega)).mp e)), if_neg c]
      exact ⟨h3, rfl, f3, g3⟩)
  exact key h (fun _ _ _ => rfl) rfl
theorem tk44 {x : Nat} {K : XK} {h : XH} (T : x_T x K h) : (K (x + 44)).2 = 10 := by
  have := T.1 44 (by omega)
  rw [show x_ks[44]? = some (14, 10) from rfl] at this
  rw [Option.some.inj this]
theorem c_hoe {gh : Nat} {x : Nat} {K : XK} {h : XH} (I : Inv gh x K h) {z1 z2 z3 z4 : Int} (cL : 0 ≤ z1 ∧ z1 < wd x h 2) (r2 : -2147483648 ≤ z2 ∧ z2 < 2147483648) (r3 : -2147483648 ≤ z3 ∧ z3 < 2147483648) (r4 : -2147483648 ≤ z4 ∧ z4 < 2147483648) (c : ¬ ((1 ≤ z2 ∧ z2 ≤ 60) ∧ (1 ≤ z3 ∧ z3 ≤ 60) ∧ 0 ≤ z4 ∧ z4 ≤ 100)) : f_X11_houses K x h (jI z1) (jI z2) (jI z3) (jI z4) = some (.inl 1, h) := by
  by_cases d1 : z3 < 1
  · simp (disch := omega) only [f_X11_houses, f_X11_houses_33, f_X11_checkSeconds, f_X11_checkSeconds_11, ckL_y I cL, jL, jJ, jI_lt, jI_le, jI_eq, jI_nat, jBt, jBo, gi_, gl_, x_let, if_pos, if_neg, if_true, Option.bind_some, tvz, tvo, wd_j, and_self, true_and, and_true, Int.toNat_zero, Int.toNat_natCast, xb_v, xb_e, isb0, isb1, gil, gl2, wd_i, wd_l]
  · by_cases d2 : 60 < z3
    · simp (disch := omega) only [f_X11_houses, f_X11_houses_33, f_X11_checkSeconds, f_X11_checkSeconds_11, ckL_y I cL, jL, jJ, jI_lt, jI_le, jI_eq, jI_nat, jBt, jBo, gi_, gl_, x_let, if_pos, if_neg, if_true, Option.bind_some, tvz, tvo, wd_j, and_self, true_and, and_true, Int.toNat_zero, Int.toNat_natCast, xb_v, xb_e, isb0, isb1, gil, gl2, wd_i, wd_l]
    · by_cases d3 : z2 < 1
      · simp (disch := omega) only [f_X11_houses, f_X11_houses_33, f_X11_checkSeconds, f_X11_checkSeconds_11, ckL_y I cL, jL, jJ, jI_lt, jI_le, jI_eq, jI_nat, jBt, jBo, gi_, gl_, x_let, if_pos, if_neg, if_true, Option.bind_some, tvz, tvo, wd_j, and_self, true_and, and_true, Int.toNat_zero, Int.toNat_natCast, xb_v, xb_e, isb0, isb1, gil, gl2, wd_i, wd_l]
      · by_cases d4 : 60 < z2
        · simp (disch := omega) only [f_X11_houses, f_X11_houses_33, f_X11_checkSeconds, f_X11_checkSeconds_11, ckL_y I cL, jL, jJ, jI_lt, jI_le, jI_eq, jI_nat, jBt, jBo, gi_, gl_, x_let, if_pos, if_neg, if_true, Option.bind_some, tvz, tvo, wd_j, and_self, true_and, and_true, Int.toNat_zero, Int.toNat_natCast, xb_v, xb_e, isb0, isb1, gil, gl2, wd_i, wd_l]
        · by_cases d5 : z4 < 0
          · simp (disch := omega) only [f_X11_houses, f_X11_houses_33, f_X11_checkSeconds, f_X11_checkSeconds_11, ckL_y I cL, jL, jJ, jI_lt, jI_le, jI_eq, jI_nat, jBt, jBo, gi_, gl_, x_let, if_pos, if_neg, if_true, Option.bind_some, tvz, tvo, wd_j, and_self, true_and, and_true, Int.toNat_zero, Int.toNat_natCast, xb_v, xb_e, isb0, isb1, gil, gl2, wd_i, wd_l]
          · simp (disch := omega) only [f_X11_houses, f_X11_houses_33, f_X11_checkSeconds, f_X11_checkSeconds_11, ckL_y I cL, jL, jJ, jI_lt, jI_le, jI_eq, jI_nat, jBt, jBo, gi_, gl_, x_let, if_pos, if_neg, if_true, Option.bind_some, tvz, tvo, wd_j, and_self, true_and, and_true, Int.toNat_zero, Int.toNat_natCast, xb_v, xb_e, isb0, isb1, gil, gl2, wd_i, wd_l]
theorem r_hoe {x : Nat} {H : XH} {z1 z2 z3 z4 : Int} (e1 : f_X12_noLaw x (x_i H (x + 64) 0 (jI 0)) (jI z1) = some (jI 0)) (r2 : -2147483648 ≤ z2 ∧ z2 < 2147483648) (r3 : -2147483648 ≤ z3 ∧ z3 < 2147483648) (r4 : -2147483648 ≤ z4 ∧ z4 < 2147483648) (c : ¬ ((1 ≤ z2 ∧ z2 ≤ 60) ∧ (1 ≤ z3 ∧ z3 ≤ 60) ∧ 0 ≤ z4 ∧ z4 ≤ 100)) : f_X12_houses x H (jI z1) (jI z2) (jI z3) (jI z4) = some (jI 0, x_i (x_i H (x + 64) 0 (jI 0)) (x + 64) 0 (jI 2)) := by
  by_cases d3 : z2 < 1
  · simp (disch := omega) only [f_X12_houses, f_X12_houses_59, f_X12_noSeconds, f_X12_in, jL, jJ, jI_lt, jI_le, jI_eq, jI_nat, jBt, jBo, gi_, gl_, x_let, if_pos, if_neg, if_true, Option.bind_some, tvz, tvo, wd_j, and_self, true_and, and_true, Int.toNat_zero, Int.toNat_natCast, xb_v, xb_e, isb0, isb1, gil, gl2, wd_i, wd_l, e1]
  · by_cases d4 : 60 < z2
    · simp (disch := omega) only [f_X12_houses, f_X12_houses_59, f_X12_noSeconds, f_X12_in, jL, jJ, jI_lt, jI_le, jI_eq, jI_nat, jBt, jBo, gi_, gl_, x_let, if_pos, if_neg, if_true, Option.bind_some, tvz, tvo, wd_j, and_self, true_and, and_true, Int.toNat_zero, Int.toNat_natCast, xb_v, xb_e, isb0, isb1, gil, gl2, wd_i, wd_l, e1]
    · by_cases d1 : z3 < 1
      · simp (disch := omega) only [f_X12_houses, f_X12_houses_59, f_X12_noSeconds, f_X12_in, jL, jJ, jI_lt, jI_le, jI_eq, jI_nat, jBt, jBo, gi_, gl_, x_let, if_pos, if_neg, if_true, Option.bind_some, tvz, tvo, wd_j, and_self, true_and, and_true, Int.toNat_zero, Int.toNat_natCast, xb_v, xb_e, isb0, isb1, gil, gl2, wd_i, wd_l, e1]
      · by_cases d2 : 60 < z3
        · simp (disch := omega) only [f_X12_houses, f_X12_houses_59, f_X12_noSeconds, f_X12_in, jL, jJ, jI_lt, jI_le, jI_eq, jI_nat, jBt, jBo, gi_, gl_, x_let, if_pos, if_neg, if_true, Option.bind_some, tvz, tvo, wd_j, and_self, true_and, and_true, Int.toNat_zero, Int.toNat_natCast, xb_v, xb_e, isb0, isb1, gil, gl2, wd_i, wd_l, e1]
        · by_cases d5 : z4 < 0
          · simp (disch := omega) only [f_X12_houses, f_X12_houses_59, f_X12_noSeconds, f_X12_in, jL, jJ, jI_lt, jI_le, jI_eq, jI_nat, jBt, jBo, gi_, gl_, x_let, if_pos, if_neg, if_true, Option.bind_some, tvz, tvo, wd_j, and_self, true_and, and_true, Int.toNat_zero, Int.toNat_natCast, xb_v, xb_e, isb0, isb1, gil, gl2, wd_i, wd_l, e1]
          · simp (disch := omega) only [f_X12_houses, f_X12_houses_59, f_X12_noSeconds, f_X12_in, jL, jJ, jI_lt, jI_le, jI_eq, jI_nat, jBt, jBo, gi_, gl_, x_let, if_pos, if_neg, if_true, Option.bind_some, tvz, tvo, wd_j, and_self, true_and, and_true, Int.toNat_zero, Int.toNat_natCast, xb_v, xb_e, isb0, isb1, gil, gl2, wd_i, wd_l, e1]
theorem c_hom {gh : Nat} {x : Nat} {K : XK} {h : XH} (I : Inv gh x K h) {z1 z2 z3 z4 V : Int} {hh : XH} (cL : 0 ≤ z1 ∧ z1 < wd x h 2) (c1 : 1 ≤ z2 ∧ z2 ≤ 60) (c2 : 1 ≤ z3 ∧ z3 ≤ 60) (c3 : 0 ≤ z4 ∧ z4 ≤ 100) (g1 : f_X11_houses_47 K x x_FU h (jI z1) (jI z2) (jI z3) (jI z4) (jI 1) = some (.inr (jI V), hh)) : f_X11_houses K x h (jI z1) (jI z2) (jI z3) (jI z4) = some (.inr (jI V), hh) := by
  unfold f_X11_houses f_X11_checkSeconds
  rw [ckL_y I cL, xb_v, if_neg (show ¬ jI z3 < (1 : Int32) from fun e => absurd ((jI_lt (b := 1) (by omega) (by omega) (by omega) (by omega)).mp e) (by omega)), if_pos (show jI z3 ≤ (60 : Int32) from (jI_le (b := 60) (by omega) (by omega) (by omega) (by omega)).mpr (by omega)), xb_v, if_neg (show ¬ jI z2 < (1 : Int32) from fun e => absurd ((jI_lt (b := 1) (by omega) (by omega) (by omega) (by omega)).mp e) (by omega)), if_neg (show ¬ (60 : Int32) < jI z2 from fun e => absurd ((jI_lt (a := 60) (by omega) (by omega) (by omega) (by omega)).mp e) (by omega)), if_neg (show ¬ jI z4 < (0 : Int32) from fun e => absurd ((jI_lt (b := 0) (by omega) (by omega) (by omega) (by omega)).mp e) (by omega)), if_pos (show jI z4 ≤ (100 : Int32) from (jI_le (b := 100) (by omega) (by omega) (by omega) (by omega)).mpr (by omega)), show (1 : Int32) = jI 1 from rfl, g1]
theorem r_hom {x : Nat} {H : XH} {z1 z2 z3 z4 V : Int} {hh : XH} (e1 : f_X12_noLaw x (x_i H (x + 64) 0 (jI 0)) (jI z1) = some (jI 0)) (c1 : 1 ≤ z2 ∧ z2 ≤ 60) (c2 : 1 ≤ z3 ∧ z3 ≤ 60) (c3 : 0 ≤ z4 ∧ z4 ≤ 100) (k1 : f_X12_houses_64 x x_FU (x_i H (x + 64) 0 (jI 0)) (jI z1) (jI z2) (jI z3) (jI z4) (jI 1) = some (jI V, hh)) : f_X12_houses x H (jI z1) (jI z2) (jI z3) (jI z4) = some (jI V, hh) := by
  have i1 : ∀ h : XH, f_X12_in h (jI z2) 1 60 = 1 := fun h => by
    unfold f_X12_in
    rw [if_neg (show ¬ jI z2 < (1 : Int32) from fun e => absurd ((jI_lt (b := 1) (by omega) (by omega) (by omega) (by omega)).mp e) (by omega)), if_neg (show ¬ (60 : Int32) < jI z2 from fun e => absurd ((jI_lt (a := 60) (by omega) (by omega) (by omega) (by omega)).mp e) (by omega))]
  have i2 : ∀ h : XH, f_X12_noSeconds h (jI z3) = 0 := fun h => by
    unfold f_X12_noSeconds f_X12_in
    rw [if_neg (show ¬ jI z3 < (1 : Int32) from fun e => absurd ((jI_lt (b := 1) (by omega) (by omega) (by omega) (by omega)).mp e) (by omega)), if_neg (show ¬ (60 : Int32) < jI z3 from fun e => absurd ((jI_lt (a := 60) (by omega) (by omega) (by omega) (by omega)).mp e) (by omega))]
    rfl
  have i3 : ∀ h : XH, f_X12_in h (jI z4) 0 100 = 1 := fun h => by
    unfold f_X12_in
    rw [if_neg (show ¬ jI z4 < (0 : Int32) from fun e => absurd ((jI_lt (b := 0) (by omega) (by omega) (by omega) (by omega)).mp e) (by omega)), if_neg (show ¬ (100 : Int32) < jI z4 from fun e => absurd ((jI_lt (a := 100) (by omega) (by omega) (by omega) (by omega)).mp e) (by omega))]
  unfold f_X12_houses
  rw [xl_, show x_i H (x + 64) 0 (0 : Int32) = x_i H (x + 64) 0 (jI 0) from rfl, e1, Option.bind_some, tvz, Option.bind_some, if_pos (show jI 0 = (0 : Int32) from rfl), i1, i2, i3, if_neg (show ¬ (1 : Int32) = 0 by decide), if_pos (show (0 : Int32) = 0 from rfl), if_neg (show ¬ (1 : Int32) = 0 by decide), show f_X12_throwsIf x (x_i H (x + 64) 0 (jI 0)) 0 2 = _ from tvz, Option.bind_some, if_pos (show jI 0 = (0 : Int32) from rfl), show (1 : Int32) = jI 1 from rfl, k1]
theorem P_row28 {gh : Nat} {x : Nat} {K : XK} {h : XH} (T : x_T x K h) (I : Inv gh x K h) (a1 a2 a3 a4 : Int32) : ∃ h', f_row28 K x h a1 a2 a3 a4 = some h' ∧ Inv gh x K h' := by
  obtain ⟨z1, z1a, z1b, rfl⟩ := jI_ex a1
  obtain ⟨z2, z2a, z2b, rfl⟩ := jI_ex a2
  obtain ⟨z3, z3a, z3b, rfl⟩ := jI_ex a3
  obtain ⟨z4, z4a, z4b, rfl⟩ := jI_ex a4
  have e0 : ∀ b1 b2 b3 b4, f_row28 K x h b1 b2 b3 b4 = rc_ x (x_lb (f_X11_houses K x h b1 b2 b3 b4) [0, 1] (fun v h => x_l h (x + 76) (0 : Int32).toNatClampNeg v.toInt64)) (fun h => f_X12_houses x h b1 b2 b3 b4) := fun _ _ _ _ => rfl
  rw [e0]
  have h2 := I.w2
  have tk := tk44 T
  by_cases cL : 0 ≤ z1 ∧ z1 < wd x h 2
  · obtain ⟨t, rfl⟩ : ∃ t : Nat, z1 = t := ⟨z1.toNat, by omega⟩
    have ht := cL.2
    by_cases c : (1 ≤ z2 ∧ z2 ≤ 60) ∧ (1 ≤ z3 ∧ z3 ≤ 60) ∧ 0 ≤ z4 ∧ z4 ≤ 100
    · obtain ⟨c1, c2, c3⟩ := c
      obtain ⟨hh, g1, g2, g3⟩ := c_hous I tk ht c1 c2 c3
      generalize hV : s1_ (fun k => hs_ (wd x h) t ((z2 - 1) / k) z3) z4 20 1 = V at g1
      refine rc_q I (res := .inr (jI V)) ⟨hh, ?_, Fr.o2 g2 g3 (by decide) (by decide)⟩ (fun H J eH => ?_)
      · exact c_hom I cL c1 c2 c3 g1
      · have ew : wd x (x_i H (x + 64) 0 (jI 0)) = wd x h := by rw [wm0, eH]
        have e1 := ckL_ry J.m0 (z := (t : Int)) (by rw [ew]; exact cL)
        have rn := r_hous J.m0 (t := t) (by rw [ew]; exact ht) c1 c2 c3
        rw [ew, hV] at rn
        obtain ⟨H2, k1, k2, k3⟩ := rn
        refine ⟨_, H2, ?_, fr_0.tr (Fr.o2 k2 k3 (by decide) (by decide)), by rw [k3]; rfl, by rw [k2 _ (by omega) (by omega)]; exact gi_s, rfl⟩
        exact r_hom e1 c1 c2 c3 k1
    · refine rc_q I (res := .inl 1) ⟨h, ?_, Fr.rf⟩ (fun H J eH => ⟨jI 0, x_i (x_i H (x + 64) 0 (jI 0)) (x + 64) 0 (jI 2), ?_, fr_t, rfl, 1, rfl, by decide, gi_s⟩)
      · exact c_hoe I cL ⟨z2a, z2b⟩ ⟨z3a, z3b⟩ ⟨z4a, z4b⟩ c
      · have ew : wd x (x_i H (x + 64) 0 (jI 0)) = wd x h := by rw [wm0, eH]
        exact r_hoe (ckL_ry J.m0 (z := (t : Int)) (by rw [ew]; exact cL)) ⟨z2a, z2b⟩ ⟨z3a, z3b⟩ ⟨z4a, z4b⟩ c
  · refine rc_q I (res := .inl 0) ⟨h, ?_, Fr.rf⟩ (fun H J eH => ⟨jI 0, x_i (x_i H (x + 64) 0 (jI 0)) (x + 64) 0 (jI 1), ?_, fr_t, rfl, 0, rfl, by decide, gi_s⟩)
    · unfold f_X11_houses
      rw [ckL_n I ⟨z1a, z1b⟩ cL, xb_e]
    · have ew : wd x (x_i H (x + 64) 0 (jI 0)) = wd x h := by rw [wm0, eH]
      have e1 := ckL_rn J.m0 ⟨z1a, z1b⟩ (by rw [ew]; exact cL)
      unfold f_X12_houses
      rw [xl_, show x_i H (x + 64) 0 (0 : Int32) = x_i H (x + 64) 0 (jI 0) from rfl, e1, Option.bind_some, tvo, Option.bind_some, if_neg (show ¬ jI 1 = (0 : Int32) by decide)]
      rfl
