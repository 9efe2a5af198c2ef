/-! ===== rows that change a few numbers ===== -/
def rd_ (x : Nat) (oL : Option (Int32 × XH)) (kR : XH → Option XH) : Option XH := Option.bind oL (fun q1 => Option.bind (kR q1.2) (fun h2 => if (f_X12_thrown x h2) = q1.1 then some h2 else none))
theorem rd_v {x : Nat} {oC : Option ((Nat ⊕ Unit) × XH)} {hs : List Nat} {kR : XH → Option XH} {h1 h2 : XH} (hC : oC = some (.inr (), h1)) (hR : kR h1 = some h2) (ht : h2.1 (x + 64) 0 = jI 0) : rd_ x (x_lb oC hs (fun _ h => h)) kR = some h2 := by
  subst hC
  have ht' : h2.1 (x + 64) 0 = 0 := ht
  simp only [rd_, lb_v, Option.bind_some, hR, f_X12_thrown, ht', if_true]
theorem rd_e {x : Nat} {oC : Option ((Nat ⊕ Unit) × XH)} {hs : List Nat} {kR : XH → Option XH} {k : Unit → XH → XH} {e j : Nat} {h1 h2 : XH} (hC : oC = some (.inl e, h1)) (hj : hs.idxOf? e = some j) (hR : kR h1 = some h2) (ht : h2.1 (x + 64) 0 = jI ((j : Int) + 1)) :
    rd_ x (x_lb oC hs k) kR = some h2 := by
  subst hC
  have ht' : h2.1 (x + 64) 0 = nI (j + 1) := by rw [ht, jI_nI]; rfl
  simp only [rd_, lb_e hj, Option.bind_some, hR, f_X12_thrown, ht', if_true]
/-- thrown on both sides: nothing but the word of it has changed -/
theorem fr_t {x : Nat} {h : XH} {u v : Int32} : Fr x h (x_i (x_i h (x + 64) 0 u) (x + 64) 0 v) := (Fr.m (by decide) (by decide) (by decide)).tr (Fr.m (by decide) (by decide) (by decide))
theorem gi_n {h : XH} {a j b : Nat} {v : Int32} (hb : b ≠ a) : (x_i h a j v).1 b = h.1 b := x_i_ne hb
theorem WPk.c2 {w w' : Nat → Int} {b : Nat} (h : WPk w b) (hb : b ≤ 857) (h0 : w 0 ≤ 6) (hd : ∀ j : Nat, (j : Int) < w 0 → w (164 + 21 * j) ≤ 20) (e0 : w' 0 = w 0) (e6 : w 6 ≤ w' 6) (e7 : w 7 ≤ w' 7) (eh : ∀ j, j < 6 → w' (164 + 21 * j) = w (164 + 21 * j)) (e : ∀ k, b ≤ k → k < b + 81 → w' k = w k) : WPk w' b := by
  obtain ⟨p1, p2, p3, p4, p5, p6, p7, p8, p9, p10, p11, p12, p13, p14⟩ := h
  have hp := pl_b p7 p8 p11 p12
  unfold WPk
  rw [e b (by omega) (by omega), e (b + 1) (by omega) (by omega), e (b + 2) (by omega) (by omega), e (b + 3) (by omega) (by omega), e (b + 4) (by omega) (by omega), e (b + 5) (by omega) (by omega), e (b + 6) (by omega) (by omega), e (b + 7) (by omega) (by omega), e (b + 8) (by omega) (by omega), e0]
  refine ⟨p1, p2, p3, p4, p5, p6, p7, p8, p9, by omega, p11, p12, fun i hi => ?_, fun hq => ?_⟩
  · rw [e (b + 29 + i) (by omega) (by omega)]; exact p13 i hi
  · obtain ⟨q1, q2, q3, q4, q5, q6, q7, q8, q9⟩ := p14 hq
    rw [eh (w (b + 4)).toNat (by omega)]
    have h20 := hd (w (b + 4)).toNat (by omega)
    refine ⟨q1, q2, q3, q4, q5, q6, q7, by omega, fun k hk => ?_⟩
    rw [e (b + 9 + k) (by omega) (by omega)]
    obtain ⟨r1, r2⟩ := q9 k hk
    exact ⟨r1, by omega⟩
def sD_ (x : Nat) (h : XH) : Prop := WD (wd x h) ∧ ∀ k : Nat, k < 156 → h.1 (x + 10) k = jI (wd x h (8 + k))
def sL_ (x : Nat) (h : XH) : Prop := ∀ j : Nat, (j : Int) < wd x h 0 → (∀ d : Nat, d < 20 → 0 ≤ wd x h (165 + 21 * j + d) ∧ wd x h (165 + 21 * j + d) ≤ 9) ∧ ∀ d : Nat, (d : Int) < wd x h (164 + 21 * j) → h.1 (x + 12) (20 * j + d) = jI (wd x h (165 + 21 * j + d))
def sM_ (x : Nat) (h : XH) : Prop := WM (wd x h) ∧ ∀ k : Nat, (k : Int) < wd x h 4 → h.1 (x + 16) k = jI (wd x h (938 + k))
def sN_ (x : Nat) (h : XH) : Prop := WN (wd x h) ∧ ∀ k : Nat, k < 6 → h.1 (x + 17) k = jI (wd x h (964 + k))
def sW_ (x : Nat) (h : XH) : Prop := WW (wd x h) ∧ ∀ k : Nat, (k : Int) < wd x h 5 → h.1 (x + 18) k = jI (wd x h (944 + k))
theorem Inv.sD {gh : Nat} {x : Nat} {K : XK} {h h' : XH} (I : Inv gh x K h) (e : h'.1 (x + 10) = h.1 (x + 10)) (ew : ∀ k, 8 ≤ k → k < 164 → wd x h' k = wd x h k) : sD_ x h' := ⟨I.1.2.1.c ew, I.2.1.d2 (h' := h') e ew⟩
theorem Inv.sL {gh : Nat} {x : Nat} {K : XK} {h h' : XH} (I : Inv gh x K h) (e : h'.1 (x + 12) = h.1 (x + 12)) (ew : ∀ k, k = 0 ∨ 164 ≤ k ∧ k < 290 → wd x h' k = wd x h k) : sL_ x h' := fun j hj => by
  have h6 : wd x h 0 ≤ 6 := I.1.1.2.1
  rw [ew 0 (Or.inl rfl)] at hj
  have h20 := (I.1.2.2.1 j hj)
  have e3 := (I.2.1.2.2.1 j hj).2
  refine ⟨fun d hd => ?_, fun d hd => ?_⟩
  · rw [ew (165 + 21 * j + d) (by omega)]; exact h20.2.2 d hd
  · rw [ew (164 + 21 * j) (by omega)] at hd
    rw [ew (165 + 21 * j + d) (by omega), e]
    exact e3 d hd
theorem Inv.sM {gh : Nat} {x : Nat} {K : XK} {h h' : XH} (I : Inv gh x K h) (e : h'.1 (x + 16) = h.1 (x + 16)) (ew : ∀ k, k = 4 ∨ 938 ≤ k ∧ k < 944 → wd x h' k = wd x h k) : sM_ x h' := ⟨I.1.2.2.2.2.2.1.c I.1.1 (ew 4 (by omega)) (fun k a b => ew k (by omega)), I.2.1.d5 (h' := h') I.1 (ew 4 (by omega)) e (fun k a b => ew k (by omega))⟩
theorem Inv.sN {gh : Nat} {x : Nat} {K : XK} {h h' : XH} (I : Inv gh x K h) (e : h'.1 (x + 17) = h.1 (x + 17)) (ew : ∀ k, 964 ≤ k → k < 970 → wd x h' k = wd x h k) : sN_ x h' := ⟨I.1.2.2.2.2.2.2.2.1.c ew, I.2.1.d6 (h' := h') e ew⟩
theorem Inv.sW {gh : Nat} {x : Nat} {K : XK} {h h' : XH} (I : Inv gh x K h) (e : h'.1 (x + 18) = h.1 (x + 18)) (ew : ∀ k, k = 5 ∨ 944 ≤ k ∧ k < 964 → wd x h' k = wd x h k) : sW_ x h' := ⟨I.1.2.2.2.2.2.2.1.c I.1.1 (ew 5 (by omega)) (fun k a b => ew k (by omega)), I.2.1.d7 (h' := h') I.1 (ew 5 (by omega)) e (fun k a b => ew k (by omega))⟩
theorem Inv.sm {gh : Nat} {x : Nat} {K : XK} {h h' : XH} (I : Inv gh x K h) (ha : ∀ a, a ≠ x + 9 → a ≠ x + 10 → a ≠ x + 12 → a ≠ x + 16 → a ≠ x + 17 → a ≠ x + 18 → a ≠ x + 64 → a ≠ x + 65 → h'.1 a = h.1 a) (e9 : ∀ j, j ≠ 7 → j ≠ 12 → j ≠ 15 → h'.1 (x + 9) j = h.1 (x + 9) j)
    (m3 : h'.1 (x + 64) 3 = h.1 (x + 64) 3) (m5 : h'.1 (x + 64) 5 = h.1 (x + 64) 5) (m10 : h'.1 (x + 64) 10 = h.1 (x + 64) 10) (r : h'.2.2 = h.2.2)
    (ew : ∀ k, k < 4 ∨ k = 7 ∨ 290 ≤ k ∧ k < 938 ∨ 970 ≤ k → wd x h' k = wd x h k) (ed : ∀ j, j < 6 → wd x h' (164 + 21 * j) = wd x h (164 + 21 * j))
    (c4 : 0 ≤ wd x h' 4 ∧ wd x h' 4 ≤ 6) (c5 : 0 ≤ wd x h' 5 ∧ wd x h' 5 ≤ 20) (c6 : wd x h 6 ≤ wd x h' 6 ∧ wd x h' 6 ≤ 1000000)
    (s7 : h'.1 (x + 9) 7 = jI (wd x h' 6)) (s12 : h'.1 (x + 9) 12 = jI (wd x h' 4)) (s15 : h'.1 (x + 9) 15 = jI (wd x h' 5))
    (hD : sD_ x h') (hL : sL_ x h') (hM : sM_ x h') (hN : sN_ x h') (hW : sW_ x h') : Inv gh x K h' := by
  obtain ⟨iC, iD, iH, iP, iU, iM, iW, iN, iT⟩ := id I.1
  obtain ⟨w1, w2, w3, w4, w5, w6, w7, w8, w9, w10, w11, w12, w13, w14, w15, w16⟩ := id iC
  obtain ⟨⟨q1, q4, q6, q7, q8, q10, q12, q15⟩, -⟩ := id I.2.1
  have n0 := ew 0 (by omega)
  have n1 := ew 1 (by omega)
  have n2 := ew 2 (by omega)
  have n3 := ew 3 (by omega)
  have n7 := ew 7 (by omega)
  have hC : WC (wd x h') := by
    unfold WC
    rw [n0, n1, n2, n3, n7]
    exact ⟨w1, w2, w3, w4, w5, w6, w7, w8, c4.1, c4.2, c5.1, c5.2, by omega, c6.2, w15, w16⟩
  have hH : WH (wd x h') := fun j hj => by
    have hj' := hj
    rw [n0] at hj'
    have h20 := iH j hj'
    rw [ed j (by omega)]
    exact ⟨h20.1, h20.2.1, (hL j hj).1⟩
  have hP : WP (wd x h') := fun p hp => by
    rw [n1] at hp
    exact (iP p hp).c2 (by omega) w2 (fun j hj => (iH j hj).2.1) n0 c6.1 (by omega) ed (fun k a b => ew k (by omega))
  have hU : WU gh (wd x h') := iU.c iC n1 n7 (fun k a b => ew k (by omega))
  have hT : WT (wd x h') := iT.c iC n2 n3 (fun k a b => ew k (by omega))
  have far : ∀ a, x + 77 ≤ a → h'.1 a = h.1 a := fun a h1 => ha a (by omega) (by omega) (by omega) (by omega) (by omega) (by omega) (by omega) (by omega)
  have e11 : h'.1 (x + 11) = h.1 (x + 11) := ha _ (by omega) (by omega) (by omega) (by omega) (by omega) (by omega) (by omega) (by omega)
  refine I.up ⟨hC, hD.1, hH, hP, hU, hM.1, hW.1, hN.1, hT⟩ ⟨⟨?_, ?_, ?_, s7, ?_, ?_, s12, s15⟩, hD.2, ?_, ?_, hM.2, hN.2, hW.2, I.2.1.d8 I.1 n2 r far (fun k a b => ew k (by omega)), I.2.1.d9 I.1 n3 r far (fun k a b => ew k (by omega)), I.2.1.d10 (fun a h1 h2 => ha a (by omega) (by omega) (by omega) (by omega) (by omega) (by omega) (by omega) (by omega))⟩ far (ha _ (by omega) (by omega) (by omega) (by omega) (by omega) (by omega) (by omega) (by omega)) (ha _ (by omega) (by omega) (by omega) (by omega) (by omega) (by omega) (by omega) (by omega)) (ha _ (by omega) (by omega) (by omega) (by omega) (by omega) (by omega) (by omega) (by omega)) (ha _ (by omega) (by omega) (by omega) (by omega) (by omega) (by omega) (by omega) (by omega)) m3 m5 m10 r
  · rw [n0, e9 1 (by decide) (by decide) (by decide)]; exact q1
  · rw [n1, e9 4 (by decide) (by decide) (by decide)]; exact q4
  · rw [n7, e9 6 (by decide) (by decide) (by decide)]; exact q6
  · rw [n2, e9 8 (by decide) (by decide) (by decide)]; exact q8
  · rw [n3, e9 10 (by decide) (by decide) (by decide)]; exact q10
  · intro j hj
    have hj' := hj
    rw [n0] at hj'
    refine ⟨?_, (hL j hj).2⟩
    rw [ed j (by omega)]
    exact (congrFun e11 j).trans (I.2.1.2.2.1 j hj').1
  · exact I.2.1.d4 I.1 n1 (fun a h1 h2 => ha a (by omega) (by omega) (by omega) (by omega) (by omega) (by omega) (by omega) (by omega)) (fun k a b => ew k (by omega))

/-- chance -/
theorem P_row33 {gh : Nat} {x : Nat} {K : XK} {h : XH} (I : Inv gh x K h) (a1 a2 : Int32) : ∃ h', f_row33 x h a1 a2 = some h' ∧ Inv gh x K h' := by
  obtain ⟨⟨w1, w2, w3, w4, w5, w6, w7, w8, w9, w10, w11, w12, w13, w14, w15, w16⟩, -⟩ := id I.1
  obtain ⟨⟨e1, e4, e6, e7, e8, e10, e12, e15⟩, -⟩ := id I.2.1
  obtain ⟨z1, z1a, z1b, rfl⟩ := jI_ex a1
  obtain ⟨z2, z2a, z2b, rfl⟩ := jI_ex a2
  have e0 : ∀ b1 b2, f_row33 x h b1 b2 = rd_ x (x_lb (f_X11_chance x h b1 b2) [1] (fun _ h => h)) (fun h => f_X12_chance x h b1 b2) := fun _ _ => rfl
  rw [e0]
  by_cases c : 1 ≤ z1 ∧ z1 ≤ 6 ∧ 0 ≤ z2 ∧ z2 ≤ 100
  · obtain ⟨c1, c2, c3, c4⟩ := c
    refine ⟨x_i (x_i (x_i h (x + 17) (z1 - 1).toNat (jI z2)) (x + 64) 0 (jI 0)) (x + 65) (964 + z1 - 1).toNat (jI z2), rd_v (h1 := x_i h (x + 17) (z1 - 1).toNat (jI z2)) ?_ ?_ ?_, ?_⟩
    · simp (disch := omega) only [f_X11_chance, jL, jJ, jI_lt, jI_le, jI_eq, jI_nat, jBt, jBo, gi_, gl_, x_let, if_pos, if_neg, if_true, Option.bind_some, tvz, tvo, wd_j, and_self, true_and, and_true, Int.toNat_zero, Int.toNat_natCast, xb_v, xb_e, isb0, isb1, gil, gl2, wd_i, wd_l]
    · simp (disch := omega) only [f_X12_chance, f_X12_in, jL, jJ, jI_lt, jI_le, jI_eq, jI_nat, jBt, jBo, gi_, gl_, x_let, if_pos, if_neg, if_true, Option.bind_some, tvz, tvo, wd_j, and_self, true_and, and_true, Int.toNat_zero, Int.toNat_natCast, xb_v, xb_e, isb0, isb1, gil, gl2, wd_i, wd_l]
    · simp (disch := omega) only [gi_n, gi_s]
    have t : (964 + z1 - 1).toNat = 964 + (z1 - 1).toNat := by omega
    have g1 : (z1 - 1).toNat < 6 := by omega
    rw [t]
    generalize (z1 - 1).toNat = m at g1
    refine I.sm (fun a _ _ _ _ _ _ _ _ => by simp (disch := omega) only [gi_n, gl_]) (fun j _ _ _ => by simp (disch := omega) only [gi_n, gi_k, gl_]) (by simp (disch := omega) only [gi_n, gi_k, gl_]) (by simp (disch := omega) only [gi_n, gi_k, gl_]) (by simp (disch := omega) only [gi_n, gi_k, gl_]) (by simp (disch := omega) only [gir, glr]) (fun k hk => by simp (disch := omega) only [wd_i, wd_l, wd_s, if_neg]) (fun j hj => by simp (disch := omega) only [wd_i, wd_l, wd_s, if_neg]) ?c4 ?c5 ?c6 ?s7 ?s12 ?s15 (I.sD (by simp (disch := omega) only [gi_n, gl_]) (fun k _ _ => by simp (disch := omega) only [wd_i, wd_l, wd_s, if_neg])) (I.sL (by simp (disch := omega) only [gi_n, gl_]) (fun k hk => by simp (disch := omega) only [wd_i, wd_l, wd_s, if_neg])) (I.sM (by simp (disch := omega) only [gi_n, gl_]) (fun k hk => by simp (disch := omega) only [wd_i, wd_l, wd_s, if_neg])) ?N (I.sW (by simp (disch := omega) only [gi_n, gl_]) (fun k hk => by simp (disch := omega) only [wd_i, wd_l, wd_s, if_neg]))
    case c4 => simp (disch := omega) only [wd_i, wd_l, wd_s, if_neg, gi_n, gi_k, gl_, e7, e12, e15]; omega
    case c5 => simp (disch := omega) only [wd_i, wd_l, wd_s, if_neg, gi_n, gi_k, gl_, e7, e12, e15]; omega
    case c6 => simp (disch := omega) only [wd_i, wd_l, wd_s, if_neg, gi_n, gi_k, gl_, e7, e12, e15]; omega
    case s7 => simp (disch := omega) only [wd_i, wd_l, wd_s, if_neg, gi_n, gi_k, gl_, e7, e12, e15]
    case s12 => simp (disch := omega) only [wd_i, wd_l, wd_s, if_neg, gi_n, gi_k, gl_, e7, e12, e15]
    case s15 => simp (disch := omega) only [wd_i, wd_l, wd_s, if_neg, gi_n, gi_k, gl_, e7, e12, e15]
    case N =>
      have ew : ∀ k, k < 6 → wd x (x_i (x_i (x_i h (x + 17) m (jI z2)) (x + 64) 0 (jI 0)) (x + 65) (964 + m) (jI z2)) (964 + k) = if k = m then z2 else wd x h (964 + k) := fun k hk => by
        by_cases e : k = m
        · subst e; simp (disch := omega) only [wd_i, wd_l, wd_s, if_pos, if_true]
        · simp (disch := omega) only [wd_i, wd_l, wd_s, if_neg]
      refine ⟨fun k hk => ?_, fun k hk => ?_⟩
      · rw [ew k hk]
        have := I.1.2.2.2.2.2.2.2.1 k hk
        split <;> omega
      · rw [ew k hk]
        have := I.2.1.2.2.2.2.2.1 k hk
        by_cases e : k = m
        · subst e; simp (disch := omega) only [gi_n, gi_s, if_true]
        · simp (disch := omega) only [gi_n, gi_k, if_neg]; exact this
  · refine ⟨x_i (x_i h (x + 64) 0 (jI 0)) (x + 64) 0 (jI 1), rd_e (h1 := h) (e := 1) (j := 0) ?_ rfl ?_ ?_, I.fr fr_t⟩
    · by_cases d1 : z1 < 1
      · simp (disch := omega) only [f_X11_chance, f_X11_chance_21, jL, jJ, jI_lt, jI_le, jI_eq, jI_nat, jBt, jBo, gi_, gl_, x_let, if_pos, if_neg, if_true, Option.bind_some, tvz, tvo, wd_j, and_self, true_and, and_true, Int.toNat_zero, Int.toNat_natCast, xb_v, xb_e, isb0, isb1, gil, gl2, wd_i, wd_l]
      · by_cases d2 : 6 < z1
        · simp (disch := omega) only [f_X11_chance, f_X11_chance_21, jL, jJ, jI_lt, jI_le, jI_eq, jI_nat, jBt, jBo, gi_, gl_, x_let, if_pos, if_neg, if_true, Option.bind_some, tvz, tvo, wd_j, and_self, true_and, and_true, Int.toNat_zero, Int.toNat_natCast, xb_v, xb_e, isb0, isb1, gil, gl2, wd_i, wd_l]
        · by_cases d3 : z2 < 0
          · simp (disch := omega) only [f_X11_chance, f_X11_chance_21, jL, jJ, jI_lt, jI_le, jI_eq, jI_nat, jBt, jBo, gi_, gl_, x_let, if_pos, if_neg, if_true, Option.bind_some, tvz, tvo, wd_j, and_self, true_and, and_true, Int.toNat_zero, Int.toNat_natCast, xb_v, xb_e, isb0, isb1, gil, gl2, wd_i, wd_l]
          · simp (disch := omega) only [f_X11_chance, f_X11_chance_21, jL, jJ, jI_lt, jI_le, jI_eq, jI_nat, jBt, jBo, gi_, gl_, x_let, if_pos, if_neg, if_true, Option.bind_some, tvz, tvo, wd_j, and_self, true_and, and_true, Int.toNat_zero, Int.toNat_natCast, xb_v, xb_e, isb0, isb1, gil, gl2, wd_i, wd_l]
    · by_cases d1 : z1 < 1
      · simp (disch := omega) only [f_X12_chance, f_X12_in, jL, jJ, jI_lt, jI_le, jI_eq, jI_nat, jBt, jBo, gi_, gl_, x_let, if_pos, if_neg, if_true, Option.bind_some, tvz, tvo, wd_j, and_self, true_and, and_true, Int.toNat_zero, Int.toNat_natCast, xb_v, xb_e, isb0, isb1, gil, gl2, wd_i, wd_l]
      · by_cases d2 : 6 < z1
        · simp (disch := omega) only [f_X12_chance, f_X12_in, jL, jJ, jI_lt, jI_le, jI_eq, jI_nat, jBt, jBo, gi_, gl_, x_let, if_pos, if_neg, if_true, Option.bind_some, tvz, tvo, wd_j, and_self, true_and, and_true, Int.toNat_zero, Int.toNat_natCast, xb_v, xb_e, isb0, isb1, gil, gl2, wd_i, wd_l]
        · by_cases d3 : z2 < 0
          · simp (disch := omega) only [f_X12_chance, f_X12_in, jL, jJ, jI_lt, jI_le, jI_eq, jI_nat, jBt, jBo, gi_, gl_, x_let, if_pos, if_neg, if_true, Option.bind_some, tvz, tvo, wd_j, and_self, true_and, and_true, Int.toNat_zero, Int.toNat_natCast, xb_v, xb_e, isb0, isb1, gil, gl2, wd_i, wd_l]
          · simp (disch := omega) only [f_X12_chance, f_X12_in, jL, jJ, jI_lt, jI_le, jI_eq, jI_nat, jBt, jBo, gi_, gl_, x_let, if_pos, if_neg, if_true, Option.bind_some, tvz, tvo, wd_j, and_self, true_and, and_true, Int.toNat_zero, Int.toNat_natCast, xb_v, xb_e, isb0, isb1, gil, gl2, wd_i, wd_l]
    · simp (disch := omega) only [gi_n, gi_s]; rfl

/-- dull -/
theorem P_row5 {gh : Nat} {x : Nat} {K : XK} {h : XH} (I : Inv gh x K h) (a1 a2 a3 : Int32) : ∃ h', f_row5 x h a1 a2 a3 = some h' ∧ Inv gh x K h' := by
  obtain ⟨⟨w1, w2, w3, w4, w5, w6, w7, w8, w9, w10, w11, w12, w13, w14, w15, w16⟩, -⟩ := id I.1
  obtain ⟨⟨e1, e4, e6, e7, e8, e10, e12, e15⟩, -⟩ := id I.2.1
  obtain ⟨z1, z1a, z1b, rfl⟩ := jI_ex a1
  obtain ⟨z2, z2a, z2b, rfl⟩ := jI_ex a2
  obtain ⟨z3, z3a, z3b, rfl⟩ := jI_ex a3
  have e0 : ∀ b1 b2 b3, f_row5 x h b1 b2 b3 = rc_ x (x_lb (f_X11_dull x h b1 b2 b3) [0, 1] (fun v h => x_l h (x + 76) (0 : Int32).toNatClampNeg v.toInt64)) (fun h => f_X12_dull x h b1 b2 b3) := fun _ _ _ => rfl
  rw [e0]
  by_cases c : 0 ≤ z1 ∧ z1 < 52 ∧ 0 ≤ z2 ∧ z2 < 3
  · obtain ⟨c1, c2, c3, c4⟩ := c
    by_cases d : 0 ≤ z3 ∧ z3 < 10
    · obtain ⟨d1, d2⟩ := d
      have t : (8 + 3 * z1 + z2).toNat = 8 + (z1 * 3 + z2).toNat := by omega
      have g1 : (z1 * 3 + z2).toNat < 156 := by omega
      have ev : h.1 (x + 10) (z1 * 3 + z2).toNat = jI (wd x h (8 + (z1 * 3 + z2).toNat)) := I.2.1.2.1 _ g1
      have eR : ∀ H : XH, wd x H = wd x h → f_X12_dull x H (jI z1) (jI z2) (jI z3) = some (jI (wd x h (8 + (z1 * 3 + z2).toNat)), x_i (x_i H (x + 64) 0 (jI 0)) (x + 65) (8 + (z1 * 3 + z2).toNat) (jI z3)) := fun H eH => by
        simp (disch := omega) only [f_X12_dull, f_X12_in, f_X12_noCard, f_X12_noRole, f_X12_dullOf, jL, jJ, jI_lt, jI_le, jI_eq, jI_nat, jBt, jBo, gi_, gl_, x_let, if_pos, if_neg, if_true, Option.bind_some, tvz, tvo, wd_j, and_self, true_and, and_true, Int.toNat_zero, Int.toNat_natCast, xb_v, xb_e, isb0, isb1, gil, gl2, wd_i, wd_l, t, eH, show (51 : Int32) = jI 51 from by decide]
      have eC : f_X11_dull x h (jI z1) (jI z2) (jI z3) = some (.inr (jI (wd x h (8 + (z1 * 3 + z2).toNat))), x_i h (x + 10) (z1 * 3 + z2).toNat (jI z3)) := by
        simp (disch := omega) only [f_X11_dull, jL, jJ, jI_lt, jI_le, jI_eq, jI_nat, jBt, jBo, gi_, gl_, x_let, if_pos, if_neg, if_true, Option.bind_some, tvz, tvo, wd_j, and_self, true_and, and_true, Int.toNat_zero, Int.toNat_natCast, xb_v, xb_e, isb0, isb1, gil, gl2, wd_i, wd_l, ev]
      generalize (z1 * 3 + z2).toNat = m at g1 ev eR eC
      refine ⟨_, rc_v eC (eR _ (by funext k; simp (disch := omega) only [wd_i, wd_l])) (by simp (disch := omega) only [gi_n, gi_s]; rfl) rfl, ?_⟩
      generalize (jI (wd x h (8 + m))).toInt64 = V
      generalize (0 : Int32).toNatClampNeg = u
      refine I.sm (fun a _ _ _ _ _ _ _ _ => by simp (disch := omega) only [gi_n, gl_]) (fun j _ _ _ => by simp (disch := omega) only [gi_n, gi_k, gl_]) (by simp (disch := omega) only [gi_n, gi_k, gl_]) (by simp (disch := omega) only [gi_n, gi_k, gl_]) (by simp (disch := omega) only [gi_n, gi_k, gl_]) (by simp (disch := omega) only [gir, glr]) (fun k hk => by simp (disch := omega) only [wd_i, wd_l, wd_s, if_neg]) (fun j hj => by simp (disch := omega) only [wd_i, wd_l, wd_s, if_neg]) ?c4 ?c5 ?c6 ?s7 ?s12 ?s15 ?D (I.sL (by simp (disch := omega) only [gi_n, gl_]) (fun k hk => by simp (disch := omega) only [wd_i, wd_l, wd_s, if_neg])) (I.sM (by simp (disch := omega) only [gi_n, gl_]) (fun k hk => by simp (disch := omega) only [wd_i, wd_l, wd_s, if_neg])) (I.sN (by simp (disch := omega) only [gi_n, gl_]) (fun k _ _ => by simp (disch := omega) only [wd_i, wd_l, wd_s, if_neg])) (I.sW (by simp (disch := omega) only [gi_n, gl_]) (fun k hk => by simp (disch := omega) only [wd_i, wd_l, wd_s, if_neg]))
      case c4 => simp (disch := omega) only [wd_i, wd_l, wd_s, if_neg, gi_n, gi_k, gl_, e7, e12, e15]; omega
      case c5 => simp (disch := omega) only [wd_i, wd_l, wd_s, if_neg, gi_n, gi_k, gl_, e7, e12, e15]; omega
      case c6 => simp (disch := omega) only [wd_i, wd_l, wd_s, if_neg, gi_n, gi_k, gl_, e7, e12, e15]; omega
      case s7 => simp (disch := omega) only [wd_i, wd_l, wd_s, if_neg, gi_n, gi_k, gl_, e7, e12, e15]
      case s12 => simp (disch := omega) only [wd_i, wd_l, wd_s, if_neg, gi_n, gi_k, gl_, e7, e12, e15]
      case s15 => simp (disch := omega) only [wd_i, wd_l, wd_s, if_neg, gi_n, gi_k, gl_, e7, e12, e15]
      case D =>
        have ew : ∀ k, k < 156 → wd x (x_i (x_i (x_l (x_i h (x + 10) m (jI z3)) (x + 76) u V) (x + 64) 0 (jI 0)) (x + 65) (8 + m) (jI z3)) (8 + k) = if k = m then z3 else wd x h (8 + k) := fun k hk => by
          by_cases e : k = m
          · subst e; simp (disch := omega) only [wd_i, wd_l, wd_s, if_pos, if_true]
          · simp (disch := omega) only [wd_i, wd_l, wd_s, if_neg]
        refine ⟨fun k hk => ?_, fun k hk => ?_⟩
        · rw [ew k hk]
          have := I.1.2.1 k hk
          split <;> omega
        · rw [ew k hk]
          have := I.2.1.2.1 k hk
          by_cases e : k = m
          · subst e; simp (disch := omega) only [gi_n, gi_s, gl_, if_true]
          · simp (disch := omega) only [gi_n, gi_k, gl_, if_neg]; exact this
    · refine ⟨x_i (x_i h (x + 64) 0 (jI 0)) (x + 64) 0 (jI 2), rc_e (r := jI 0) (h1 := h) (e := 1) (j := 1) ?_ rfl (by decide) ?_ ?_, I.fr fr_t⟩
      · by_cases d1 : z3 < 0
        · simp (disch := omega) only [f_X11_dull, f_X11_dull_39, jL, jJ, jI_lt, jI_le, jI_eq, jI_nat, jBt, jBo, gi_, gl_, x_let, if_pos, if_neg, if_true, Option.bind_some, tvz, tvo, wd_j, and_self, true_and, and_true, Int.toNat_zero, Int.toNat_natCast, xb_v, xb_e, isb0, isb1, gil, gl2, wd_i, wd_l]
        · simp (disch := omega) only [f_X11_dull, f_X11_dull_39, jL, jJ, jI_lt, jI_le, jI_eq, jI_nat, jBt, jBo, gi_, gl_, x_let, if_pos, if_neg, if_true, Option.bind_some, tvz, tvo, wd_j, and_self, true_and, and_true, Int.toNat_zero, Int.toNat_natCast, xb_v, xb_e, isb0, isb1, gil, gl2, wd_i, wd_l]
      · by_cases d1 : z3 < 0
        · simp (disch := omega) only [f_X12_dull, f_X12_dull_55, f_X12_in, f_X12_noCard, f_X12_noRole, jL, jJ, jI_lt, jI_le, jI_eq, jI_nat, jBt, jBo, gi_, gl_, x_let, if_pos, if_neg, if_true, Option.bind_some, tvz, tvo, wd_j, and_self, true_and, and_true, Int.toNat_zero, Int.toNat_natCast, xb_v, xb_e, isb0, isb1, gil, gl2, wd_i, wd_l, show (51 : Int32) = jI 51 from by decide]
        · simp (disch := omega) only [f_X12_dull, f_X12_dull_55, f_X12_in, f_X12_noCard, f_X12_noRole, jL, jJ, jI_lt, jI_le, jI_eq, jI_nat, jBt, jBo, gi_, gl_, x_let, if_pos, if_neg, if_true, Option.bind_some, tvz, tvo, wd_j, and_self, true_and, and_true, Int.toNat_zero, Int.toNat_natCast, xb_v, xb_e, isb0, isb1, gil, gl2, wd_i, wd_l, show (51 : Int32) = jI 51 from by decide]
      · simp (disch := omega) only [gi_n, gi_s]; rfl
  · refine ⟨x_i (x_i h (x + 64) 0 (jI 0)) (x + 64) 0 (jI 1), rc_e (r := jI 0) (h1 := h) (e := 0) (j := 0) ?_ rfl (by decide) ?_ ?_, I.fr fr_t⟩
    · by_cases d1 : z1 < 0
      · simp (disch := omega) only [f_X11_dull, f_X11_dull_19, jL, jJ, jI_lt, jI_le, jI_eq, jI_nat, jBt, jBo, gi_, gl_, x_let, if_pos, if_neg, if_true, Option.bind_some, tvz, tvo, wd_j, and_self, true_and, and_true, Int.toNat_zero, Int.toNat_natCast, xb_v, xb_e, isb0, isb1, gil, gl2, wd_i, wd_l]
      · by_cases d2 : 52 ≤ z1
        · simp (disch := omega) only [f_X11_dull, f_X11_dull_19, jL, jJ, jI_lt, jI_le, jI_eq, jI_nat, jBt, jBo, gi_, gl_, x_let, if_pos, if_neg, if_true, Option.bind_some, tvz, tvo, wd_j, and_self, true_and, and_true, Int.toNat_zero, Int.toNat_natCast, xb_v, xb_e, isb0, isb1, gil, gl2, wd_i, wd_l]
        · by_cases d3 : z2 < 0
          · simp (disch := omega) only [f_X11_dull, f_X11_dull_19, jL, jJ, jI_lt, jI_le, jI_eq, jI_nat, jBt, jBo, gi_, gl_, x_let, if_pos, if_neg, if_true, Option.bind_some, tvz, tvo, wd_j, and_self, true_and, and_true, Int.toNat_zero, Int.toNat_natCast, xb_v, xb_e, isb0, isb1, gil, gl2, wd_i, wd_l]
          · simp (disch := omega) only [f_X11_dull, f_X11_dull_19, jL, jJ, jI_lt, jI_le, jI_eq, jI_nat, jBt, jBo, gi_, gl_, x_let, if_pos, if_neg, if_true, Option.bind_some, tvz, tvo, wd_j, and_self, true_and, and_true, Int.toNat_zero, Int.toNat_natCast, xb_v, xb_e, isb0, isb1, gil, gl2, wd_i, wd_l]
    · by_cases d1 : z1 < 0
      · simp (disch := omega) only [f_X12_dull, f_X12_dull_55, f_X12_in, f_X12_noCard, f_X12_noRole, jL, jJ, jI_lt, jI_le, jI_eq, jI_nat, jBt, jBo, gi_, gl_, x_let, if_pos, if_neg, if_true, Option.bind_some, tvz, tvo, wd_j, and_self, true_and, and_true, Int.toNat_zero, Int.toNat_natCast, xb_v, xb_e, isb0, isb1, gil, gl2, wd_i, wd_l, show (51 : Int32) = jI 51 from by decide]
      · by_cases d2 : 52 ≤ z1
        · simp (disch := omega) only [f_X12_dull, f_X12_dull_55, f_X12_in, f_X12_noCard, f_X12_noRole, jL, jJ, jI_lt, jI_le, jI_eq, jI_nat, jBt, jBo, gi_, gl_, x_let, if_pos, if_neg, if_true, Option.bind_some, tvz, tvo, wd_j, and_self, true_and, and_true, Int.toNat_zero, Int.toNat_natCast, xb_v, xb_e, isb0, isb1, gil, gl2, wd_i, wd_l, show (51 : Int32) = jI 51 from by decide]
        · by_cases d3 : z2 < 0
          · simp (disch := omega) only [f_X12_dull, f_X12_dull_55, f_X12_in, f_X12_noCard, f_X12_noRole, jL, jJ, jI_lt, jI_le, jI_eq, jI_nat, jBt, jBo, gi_, gl_, x_let, if_pos, if_neg, if_true, Option.bind_some, tvz, tvo, wd_j, and_self, true_and, and_true, Int.toNat_zero, Int.toNat_natCast, xb_v, xb_e, isb0, isb1, gil, gl2, wd_i, wd_l, show (51 : Int32) = jI 51 from by decide]
          · simp (disch := omega) only [f_X12_dull, f_X12_dull_55, f_X12_in, f_X12_noCard, f_X12_noRole, jL, jJ, jI_lt, jI_le, jI_eq, jI_nat, jBt, jBo, gi_, gl_, x_let, if_pos, if_neg, if_true, Option.bind_some, tvz, tvo, wd_j, and_self, true_and, and_true, Int.toNat_zero, Int.toNat_natCast, xb_v, xb_e, isb0, isb1, gil, gl2, wd_i, wd_l, show (51 : Int32) = jI 51 from by decide]
    · simp (disch := omega) only [gi_n, gi_s]; rfl
