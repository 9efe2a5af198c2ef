/-! ===== last ===== -/
theorem bit01 (v : Int32) : v &&& 1 = 0 ∨ v &&& 1 = 1 := by
  have h : (v &&& 1).toBitVec = BitVec.setWidth 32 (BitVec.ofBool (v.toBitVec.getLsbD 0)) := by
    rw [Int32.toBitVec_and]
    exact BitVec.and_one_eq_setWidth_ofBool_getLsbD
  cases hb : v.toBitVec.getLsbD 0
  · left
    apply Int32.toBitVec_inj.mp
    rw [h, hb]
    rfl
  · right
    apply Int32.toBitVec_inj.mp
    rw [h, hb]
    rfl
def lt_ (w : Nat → Int) (t n : Nat) (s : Int) : Int := aw_ w t n (w 6) - aw_ w t n (w 6 + s)
/-- the last one left to say, of the first n packs -/
def ls_ (w : Nat → Int) (t : Nat) (v : Int32) (s : Int) : Nat → Int × Int
  | 0 => (-1, 0)
  | n + 1 => if (x_shr v (jI (n : Int))) &&& 1 = 1 ∧ 0 < w (290 + 81 * n + 3) ∧ ((ls_ w t v s n).1 < 0 ∨ lt_ w t n s < (ls_ w t v s n).2) then ((n : Int), lt_ w t n s) else ls_ w t v s n
theorem aw_b {w : Nat → Int} {t p : Nat} {ck : Int} (h : w (290 + 81 * p + 2) ≤ 52) : 0 ≤ aw_ w t p ck ∧ aw_ w t p ck ≤ 5200 := by
  have := swg_b (w := w) (t := t) (p := p) (hs := w (290 + 81 * p + 4)) (dr := w (290 + 81 * p + 5)) (per := w (290 + 81 * p + 6)) (sec := w (290 + 81 * p + 7)) (gone := w (290 + 81 * p + 8)) (ah := w (290 + 81 * p + 3)) (age := ag_ w p ck) (n := (w (290 + 81 * p + 2)).toNat)
  unfold aw_
  omega
theorem ls_b {gh : Nat} {x : Nat} {K : XK} {h : XH} (I : Inv gh x K h) {t : Nat} {v : Int32} {s : Int} : ∀ n : Nat, (n : Int) ≤ wd x h 1 → -1 ≤ (ls_ (wd x h) t v s n).1 ∧ (ls_ (wd x h) t v s n).1 < 8 ∧ -5200 ≤ (ls_ (wd x h) t v s n).2 ∧ (ls_ (wd x h) t v s n).2 ≤ 5200 := by
  have h1 := I.w1
  intro n
  induction n with
  | zero => intro _; exact ⟨show (-1 : Int) ≤ -1 by decide, show (-1 : Int) < 8 by decide, show (-5200 : Int) ≤ 0 by decide, show (0 : Int) ≤ 5200 by decide⟩
  | succ n ih =>
    intro hn
    have := ih (by omega)
    have a := aw_b (w := wd x h) (t := t) (p := n) (ck := wd x h 6) (I.wp (q := n) (by omega)).2.2.2.2.2.2.2.1
    have b := aw_b (w := wd x h) (t := t) (p := n) (ck := wd x h 6 + s) (I.wp (q := n) (by omega)).2.2.2.2.2.2.2.1
    unfold ls_ lt_
    split
    · exact ⟨by show (-1 : Int) ≤ (n : Int); omega, by show (n : Int) < 8; omega, by show -5200 ≤ _ - _; omega, by show _ - _ ≤ (5200 : Int); omega⟩
    · exact this
theorem ls_p {w : Nat → Int} {t n : Nat} {v : Int32} {s b l d : Int} (hb : (ls_ w t v s n).1 = b) (hl : (ls_ w t v s n).2 = l) (hd : lt_ w t n s = d) (h1 : (x_shr v (jI (n : Int))) &&& 1 = 1) (h2 : 0 < w (290 + 81 * n + 3)) : (ls_ w t v s (n + 1)).1 = (if b < 0 ∨ d < l then (n : Int) else b) ∧ (ls_ w t v s (n + 1)).2 = (if b < 0 ∨ d < l then d else l) := by
  show (if _ then ((n : Int), lt_ w t n s) else ls_ w t v s n).1 = _ ∧ (if _ then ((n : Int), lt_ w t n s) else ls_ w t v s n).2 = _
  rw [hb, hl, hd]
  by_cases c : b < 0 ∨ d < l
  · rw [if_pos ⟨h1, h2, c⟩, if_pos c, if_pos c]
    exact ⟨rfl, rfl⟩
  · rw [if_neg (fun q => c q.2.2), if_neg c, if_neg c]
    exact ⟨hb, hl⟩
theorem ls_n {w : Nat → Int} {t n : Nat} {v : Int32} {s : Int} (h1 : ¬ ((x_shr v (jI (n : Int))) &&& 1 = 1 ∧ 0 < w (290 + 81 * n + 3))) : ls_ w t v s (n + 1) = ls_ w t v s n := if_neg (fun q => h1 ⟨q.1, q.2.1⟩)
theorem ji_ {p : Prop} [Decidable p] (a b : Int) : (if p then jI a else jI b) = jI (if p then a else b) := by split <;> rfl
theorem c_last {gh : Nat} {x : Nat} {K : XK} {h : XH} (I : Inv gh x K h) {t : Nat} (ht : (t : Int) < wd x h 2) {v : Int32} {s : Int} (hs : 0 ≤ s ∧ s ≤ 9999) : ∃ h2, f_X11_last_36 K x x_FU h (jI t) v (jI s) (jI (-1)) (jI 0) (jI 0) = some (.inr (jI (ls_ (wd x h) t v s (wd x h 1).toNat).1), h2) ∧ (∀ a, a ≠ x + 44 → a ≠ x + 45 → h2.1 a = h.1 a) ∧ h2.2 = h.2 := by
  have h1 := I.w1
  have h2 := I.w2
  have h6 := I.w6
  obtain ⟨r, hr, ct⟩ := I.law ht
  have hx := I.wl ht
  have rr := ct.1
  have key := x_up0 (P := fun m n => ∀ h1 : XH, (∀ a, a ≠ x + 44 → a ≠ x + 45 → h1.1 a = h.1 a) → h1.2 = h.2 → ∃ h2, f_X11_last_36 K x m h1 (jI t) v (jI s) (jI (ls_ (wd x h) t v s n).1) (jI (ls_ (wd x h) t v s n).2) (jI (n : Int)) = some (.inr (jI (ls_ (wd x h) t v s (wd x h 1).toNat).1), h2) ∧ (∀ a, a ≠ x + 44 → a ≠ x + 45 → h2.1 a = h.1 a) ∧ h2.2 = h.2) (wd x h 1).toNat (by omega) (fun m h1 f1 f2 => by
    refine ⟨h1, ?_, f1, f2⟩
    unfold f_X11_last_36
    rw [f1 _ (by omega) (by omega), I.2.1.1.2.1, if_pos ((jI_le (by omega) (by omega) (by omega) (by omega)).mpr (by omega))]) (fun m n hn ih => by
    intro h1 f1 f2
    have F : Fr x h h1 := Fr.o2 f1 f2 (by decide) (by decide)
    have J := I.fr F
    have ew := F.ew
    have hp : (n : Int) < wd x h 1 := by omega
    have lb := ls_b I (t := t) (v := v) (s := s) n (by omega)
    have a1 : jI (n : Int) + 1 = jI ((n + 1 : Nat) : Int) := by
      rw [show (1 : Int32) = jI 1 from rfl, jI_add]
      rfl
    unfold f_X11_last_36
    rw [f1 (x + 9) (by omega) (by omega), I.2.1.1.2.1, if_neg (fun e => absurd ((jI_le (by omega) (by omega) (by omega) (by omega)).mp e) (by omega))]
    by_cases cb : (x_shr v (jI (n : Int))) &&& 1 = 1
    · rw [if_pos cb, if_pos (jI_b (by omega) (by omega) (by omega)), nat_ (by omega), f1 _ (by omega) (by omega), (I.pk hp).2.2.2.1]
      by_cases hq : 0 < wd x h (290 + 81 * n + 3)
      · have aa := aw_b (w := wd x h) (t := t) (p := n) (ck := wd x h 6) (I.wp hp).2.2.2.2.2.2.2.1
        have ab := aw_b (w := wd x h) (t := t) (p := n) (ck := wd x h 6 + s) (I.wp hp).2.2.2.2.2.2.2.1
        have c' : ∀ H : XH, (∀ a, a ≠ x + 44 → a ≠ x + 45 → H.1 a = h.1 a) → CTx x K H r (wd x h) (970 + 851 * t) false := fun H fH => ct.c ⟨hx.1, hx.2.1⟩ (fun _ _ _ => rfl) (fun a q1 _ => fH a (by omega) (by omega)) (fun _ _ _ => rfl)
        have s1 := c_sumAt J (p := n) (t := t) (r := r) (by rw [ew]; exact hp) (by rw [ew]; exact hq) (by rw [ew]; exact c' h1 f1) (by rw [ew]; exact hx) (ck := wd x h 6) (by rw [ew]; omega)
        rw [ew] at s1
        obtain ⟨h3, s1, s2, s3⟩ := s1
        have f3 : ∀ a, a ≠ x + 44 → a ≠ x + 45 → h3.1 a = h.1 a := fun a q1 q2 => by rw [s2 a q1 q2, f1 a q1 q2]
        have g3 : h3.2 = h.2 := by rw [s3, f2]
        have F3 : Fr x h h3 := Fr.o2 f3 g3 (by decide) (by decide)
        have s4 := c_sumAt (I.fr F3) (p := n) (t := t) (r := r) (by rw [F3.ew]; exact hp) (by rw [F3.ew]; exact hq) (by rw [F3.ew]; exact c' h3 f3) (by rw [F3.ew]; exact hx) (ck := wd x h 6 + s) (by rw [F3.ew]; omega)
        rw [F3.ew] at s4
        obtain ⟨h4, s4, s5, s6⟩ := s4
        obtain ⟨h5, k1, k2, k3⟩ := ih h4 (fun a q1 q2 => by rw [s5 a q1 q2, f3 a q1 q2]) (by rw [s6, g3])
        refine ⟨h5, ?_, k2, k3⟩
        obtain ⟨l1, l2⟩ := ls_p (w := wd x h) (t := t) (n := n) (v := v) (s := s) rfl rfl rfl cb hq
        rw [l1, l2] at k1
        rw [if_pos hq, if_neg (show ¬ jI 1 = (0 : Int32) by decide), if_pos (jI_b (by omega) (by omega) (by omega)), nat_ (by omega), show h1.2.2 (x + 14) t = some r by rw [f2]; exact hr, I.2.1.1.2.2.2.1, s1, Option.bind_some, if_pos (jI_b (by omega) (by omega) (by omega)), show h3.2.2 (x + 14) t = some r by rw [g3]; exact hr, f3 (x + 9) (by omega) (by omega), I.2.1.1.2.2.2.1, jI_add, s4, Option.bind_some, jI_sub]
        rw [show aw_ (wd x h) t n (wd x h 6) - aw_ (wd x h) t n (wd x h 6 + s) = lt_ (wd x h) t n s from rfl]
        have ld : -5200 ≤ lt_ (wd x h) t n s ∧ lt_ (wd x h) t n s ≤ 5200 := by unfold lt_; omega
        generalize lt_ (wd x h) t n s = d at k1 ld ⊢
        generalize (ls_ (wd x h) t v s n).1 = b at k1 lb ⊢
        generalize (ls_ (wd x h) t v s n).2 = l at k1 lb ⊢
        unfold f_X11_last_150
        rw [a1]
        by_cases e1 : b < 0
        · rw [if_pos (Or.inl e1), if_pos (Or.inl e1)] at k1
          rw [if_pos (show jI b = (-1 : Int32) by rw [show b = -1 by omega]; rfl), if_pos (show jI b = (-1 : Int32) by rw [show b = -1 by omega]; rfl)]
          exact k1
        · rw [if_neg (show ¬ jI b = (-1 : Int32) from fun e => e1 (by have := (jI_eq (by omega) (by omega) (by omega) (by omega)).mp (show jI b = jI (-1) from e); omega)), if_neg (show ¬ jI b = (-1 : Int32) from fun e => e1 (by have := (jI_eq (by omega) (by omega) (by omega) (by omega)).mp (show jI b = jI (-1) from e); omega))]
          by_cases e2 : d < l
          · rw [if_pos (Or.inr e2), if_pos (Or.inr e2)] at k1
            have nl : ¬ jI l ≤ jI d := fun e => absurd ((jI_le (by omega) (by omega) (by omega) (by omega)).mp e) (by omega)
            rw [if_neg nl, if_neg nl]
            exact k1
          · have no : ¬ (b < 0 ∨ d < l) := by omega
            rw [if_neg no, if_neg no] at k1
            have nl : jI l ≤ jI d := (jI_le (by omega) (by omega) (by omega) (by omega)).mpr (by omega)
            rw [if_pos nl, if_pos nl]
            exact k1
      · rw [if_neg hq, if_pos (show jI 0 = (0 : Int32) from rfl)]
        unfold f_X11_last_150
        have k := ih h1 f1 f2
        rw [ls_n (fun q => hq q.2)] at k
        rw [a1]
        exact k
    · rw [if_neg cb]
      unfold f_X11_last_150
      have k := ih h1 f1 f2
      rw [ls_n (fun q => cb q.1)] at k
      rw [a1]
      exact k)
  exact key h (fun _ _ _ => rfl) rfl
theorem r_last {gh : Nat} {x : Nat} {K : XK} {h : XH} (I : Inv gh x K h) {t : Nat} (ht : (t : Int) < wd x h 2) {v : Int32} {s : Int} (hs : 0 ≤ s ∧ s ≤ 9999) : ∃ h2, f_X12_last_53 x x_FU h (jI t) v (jI s) (jI (-1)) (jI 0) (jI 0) = some (jI (ls_ (wd x h) t v s (wd x h 1).toNat).1, h2) ∧ (∀ a, a ≠ x + 69 → a ≠ x + 70 → h2.1 a = h.1 a) ∧ h2.2 = h.2 := by
  have h1 := I.w1
  have h2 := I.w2
  have h6 := I.w6
  have key := x_up0 (P := fun m n => ∀ h1 : XH, (∀ a, a ≠ x + 69 → a ≠ x + 70 → h1.1 a = h.1 a) → h1.2 = h.2 → ∃ h2, f_X12_last_53 x m h1 (jI t) v (jI s) (jI (ls_ (wd x h) t v s n).1) (jI (ls_ (wd x h) t v s n).2) (jI (n : Int)) = some (jI (ls_ (wd x h) t v s (wd x h 1).toNat).1, h2) ∧ (∀ a, a ≠ x + 69 → a ≠ x + 70 → h2.1 a = h.1 a) ∧ h2.2 = h.2) (wd x h 1).toNat (by omega) (fun m h1 f1 f2 => by
    refine ⟨h1, ?_, f1, f2⟩
    unfold f_X12_last_53
    rw [if_pos (by decide), f1 _ (by omega) (by omega), show h.1 (x + 65) (1 : Int32).toNatClampNeg = jI (wd x h 1) from wd_j _ _ _, if_pos ((jI_le (by omega) (by omega) (by omega) (by omega)).mpr (by omega))]) (fun m n hn ih => by
    intro h1 f1 f2
    have F : Fr x h h1 := Fr.o2 f1 f2 (by decide) (by decide)
    have J := I.fr F
    have ew := F.ew
    have hp : (n : Int) < wd x h 1 := by omega
    have lb := ls_b I (t := t) (v := v) (s := s) n (by omega)
    have a1 : jI (n : Int) + 1 = jI ((n + 1 : Nat) : Int) := by
      rw [show (1 : Int32) = jI 1 from rfl, jI_add]
      rfl
    unfold f_X12_last_53
    rw [if_pos (by decide), f1 _ (by omega) (by omega), show h.1 (x + 65) (1 : Int32).toNatClampNeg = jI (wd x h 1) from wd_j _ _ _, if_neg (fun e => absurd ((jI_le (by omega) (by omega) (by omega) (by omega)).mp e) (by omega))]
    by_cases cb : (x_shr v (jI (n : Int))) &&& 1 = 1
    · rw [if_neg (show ¬ (x_shr v (jI (n : Int))) &&& 1 = 0 by rw [cb]; decide)]
      have ip := r_isp J (p := n) (by rw [ew]; exact hp)
      rw [ew] at ip
      rw [ip, Option.bind_some]
      by_cases hq : 0 < wd x h (290 + 81 * n + 3)
      · have aa := aw_b (w := wd x h) (t := t) (p := n) (ck := wd x h 6) (I.wp hp).2.2.2.2.2.2.2.1
        have ab := aw_b (w := wd x h) (t := t) (p := n) (ck := wd x h 6 + s) (I.wp hp).2.2.2.2.2.2.2.1
        have s1 := r_sumAt J (p := n) (t := t) (by rw [ew]; exact hp) (by rw [ew]; exact hq) (by rw [ew]; exact ht) (s := 0) (by omega)
        rw [ew, Int.add_zero] at s1
        obtain ⟨h3, s1, s2, s3⟩ := s1
        have f3 : ∀ a, a ≠ x + 69 → a ≠ x + 70 → h3.1 a = h.1 a := fun a q1 q2 => by rw [s2 a q1 q2, f1 a q1 q2]
        have g3 : h3.2 = h.2 := by rw [s3, f2]
        have F3 : Fr x h h3 := Fr.o2 f3 g3 (by decide) (by decide)
        have s4 := r_sumAt (I.fr F3) (p := n) (t := t) (by rw [F3.ew]; exact hp) (by rw [F3.ew]; exact hq) (by rw [F3.ew]; exact ht) (s := s) (by omega)
        rw [F3.ew] at s4
        obtain ⟨h4, s4, s5, s6⟩ := s4
        obtain ⟨h5, k1, k2, k3⟩ := ih h4 (fun a q1 q2 => by rw [s5 a q1 q2, f3 a q1 q2]) (by rw [s6, g3])
        refine ⟨h5, ?_, k2, k3⟩
        obtain ⟨l1, l2⟩ := ls_p (w := wd x h) (t := t) (n := n) (v := v) (s := s) rfl rfl rfl cb hq
        rw [l1, l2] at k1
        have s1' : f_X12_awaitedIn x h1 (jI t) (jI n) 0 = _ := s1
        rw [if_pos hq, if_neg (show ¬ jI 1 = (0 : Int32) by decide), s1', Option.bind_some, s4, Option.bind_some, jI_sub]
        rw [show aw_ (wd x h) t n (wd x h 6) - aw_ (wd x h) t n (wd x h 6 + s) = lt_ (wd x h) t n s from rfl]
        have ld : -5200 ≤ lt_ (wd x h) t n s ∧ lt_ (wd x h) t n s ≤ 5200 := by unfold lt_; omega
        generalize lt_ (wd x h) t n s = d at k1 ld ⊢
        generalize (ls_ (wd x h) t v s n).1 = b at k1 lb ⊢
        generalize (ls_ (wd x h) t v s n).2 = l at k1 lb ⊢
        unfold f_X12_last_127
        rw [a1]
        by_cases e1 : b < 0
        · rw [if_pos (Or.inl e1), if_pos (Or.inl e1)] at k1
          have n0 : jI b < (0 : Int32) := (jI_lt (b := 0) (by omega) (by omega) (by omega) (by omega)).mpr e1
          rw [if_pos n0, if_pos n0]
          exact k1
        · have n0 : ¬ jI b < (0 : Int32) := fun e => e1 ((jI_lt (b := 0) (by omega) (by omega) (by omega) (by omega)).mp e)
          rw [if_neg n0, if_neg n0]
          by_cases e2 : d < l
          · rw [if_pos (Or.inr e2), if_pos (Or.inr e2)] at k1
            have nl : jI d < jI l := (jI_lt (by omega) (by omega) (by omega) (by omega)).mpr e2
            rw [if_pos nl, if_pos nl]
            exact k1
          · have no : ¬ (b < 0 ∨ d < l) := by omega
            rw [if_neg no, if_neg no] at k1
            have nl : ¬ jI d < jI l := fun e => e2 ((jI_lt (by omega) (by omega) (by omega) (by omega)).mp e)
            rw [if_neg nl, if_neg nl]
            exact k1
      · rw [if_neg hq, if_pos (show jI 0 = (0 : Int32) from rfl)]
        unfold f_X12_last_127
        have k := ih h1 f1 f2
        rw [ls_n (fun q => hq q.2)] at k
        rw [a1]
        exact k
    · rw [if_pos (show (x_shr v (jI (n : Int))) &&& 1 = 0 from (bit01 _).resolve_right cb)]
      unfold f_X12_last_127
      have k := ih h1 f1 f2
      rw [ls_n (fun q => cb q.1)] at k
      rw [a1]
      exact k)
  exact key h (fun _ _ _ => rfl) rfl
theorem P_row32 {gh : Nat} {x : Nat} {K : XK} {h : XH} (I : Inv gh x K h) (a1 a2 a3 : Int32) : ∃ h', f_row32 K x h a1 a2 a3 = some h' ∧ Inv gh x K h' := by
  obtain ⟨z1, z1a, z1b, rfl⟩ := jI_ex a1
  obtain ⟨z3, z3a, z3b, rfl⟩ := jI_ex a3
  have e0 : ∀ b1 b2 b3, f_row32 K x h b1 b2 b3 = rc_ x (x_lb (f_X11_last K x h b1 b2 b3) [0, 1] (fun v h => x_l h (x + 76) (0 : Int32).toNatClampNeg v.toInt64)) (fun h => f_X12_last x h b1 b2 b3) := fun _ _ _ => rfl
  rw [e0]
  have h2 := I.w2
  by_cases cL : 0 ≤ z1 ∧ z1 < wd x h 2
  · obtain ⟨t, rfl⟩ : ∃ t : Nat, z1 = t := ⟨z1.toNat, by omega⟩
    have ht := cL.2
    by_cases c : 0 ≤ z3 ∧ z3 ≤ 9999
    · obtain ⟨hh, g1, g2, g3⟩ := c_last I ht (v := a2) c
      refine rc_q I (res := .inr (jI (ls_ (wd x h) t a2 z3 (wd x h 1).toNat).1)) ⟨hh, ?_, Fr.o2 g2 g3 (by decide) (by decide)⟩ (fun H J eH => ?_)
      · simp (disch := omega) only [f_X11_last, ckL_y I cL, jL, jJ, jI_lt, jI_le, jI_eq, jI_nat, jBt, jBo, gi_, gl_, x_let, if_pos, if_neg, if_true, Option.bind_some, tvz, tvo, wd_j, and_self, true_and, and_true, Int.toNat_zero, Int.toNat_natCast, xb_v, xb_e, isb0, isb1, gil, gl2, wd_i, wd_l, m1_, g1]
      · have ew : wd x (x_i H (x + 64) 0 (jI 0)) = wd x h := by rw [wm0, eH]
        have e1 := ckL_ry J.m0 (z := (t : Int)) (by rw [ew]; exact cL)
        have rn := r_last J.m0 (t := t) (by rw [ew]; exact ht) (v := a2) c
        rw [ew] at rn
        obtain ⟨H2, k1, k2, k3⟩ := rn
        refine ⟨_, H2, ?_, fr_0.tr (Fr.o2 k2 k3 (by decide) (by decide)), by rw [k3]; rfl, by rw [k2 _ (by omega) (by omega)]; exact gi_s, rfl⟩
        simp (disch := omega) only [f_X12_last, f_X12_in, jL, jJ, jI_lt, jI_le, jI_eq, jI_nat, jBt, jBo, gi_, gl_, x_let, if_pos, if_neg, if_true, Option.bind_some, tvz, tvo, wd_j, and_self, true_and, and_true, Int.toNat_zero, Int.toNat_natCast, xb_v, xb_e, isb0, isb1, gil, gl2, wd_i, wd_l, m1_, e1, k1]
    · refine rc_q I (res := .inl 1) ⟨h, ?_, Fr.rf⟩ (fun H J eH => ⟨jI 0, x_i (x_i H (x + 64) 0 (jI 0)) (x + 64) 0 (jI 2), ?_, fr_t, rfl, 1, rfl, by decide, gi_s⟩)
      · by_cases c4 : z3 < 0
        · simp (disch := omega) only [f_X11_last, f_X11_last_16, ckL_y I cL, jL, jJ, jI_lt, jI_le, jI_eq, jI_nat, jBt, jBo, gi_, gl_, x_let, if_pos, if_neg, if_true, Option.bind_some, tvz, tvo, wd_j, and_self, true_and, and_true, Int.toNat_zero, Int.toNat_natCast, xb_v, xb_e, isb0, isb1, gil, gl2, wd_i, wd_l, m1_]
        · simp (disch := omega) only [f_X11_last, f_X11_last_16, ckL_y I cL, jL, jJ, jI_lt, jI_le, jI_eq, jI_nat, jBt, jBo, gi_, gl_, x_let, if_pos, if_neg, if_true, Option.bind_some, tvz, tvo, wd_j, and_self, true_and, and_true, Int.toNat_zero, Int.toNat_natCast, xb_v, xb_e, isb0, isb1, gil, gl2, wd_i, wd_l, m1_]
      · have ew : wd x (x_i H (x + 64) 0 (jI 0)) = wd x h := by rw [wm0, eH]
        have e1 := ckL_ry J.m0 (z := (t : Int)) (by rw [ew]; exact cL)
        by_cases c4 : z3 < 0
        · simp (disch := omega) only [f_X12_last, f_X12_last_42, f_X12_in, jL, jJ, jI_lt, jI_le, jI_eq, jI_nat, jBt, jBo, gi_, gl_, x_let, if_pos, if_neg, if_true, Option.bind_some, tvz, tvo, wd_j, and_self, true_and, and_true, Int.toNat_zero, Int.toNat_natCast, xb_v, xb_e, isb0, isb1, gil, gl2, wd_i, wd_l, m1_, e1]
        · simp (disch := omega) only [f_X12_last, f_X12_last_42, f_X12_in, jL, jJ, jI_lt, jI_le, jI_eq, jI_nat, jBt, jBo, gi_, gl_, x_let, if_pos, if_neg, if_true, Option.bind_some, tvz, tvo, wd_j, and_self, true_and, and_true, Int.toNat_zero, Int.toNat_natCast, xb_v, xb_e, isb0, isb1, gil, gl2, wd_i, wd_l, m1_, e1]
  · refine rc_q I (res := .inl 0) ⟨h, ?_, Fr.rf⟩ (fun H J eH => ⟨jI 0, x_i (x_i H (x + 64) 0 (jI 0)) (x + 64) 0 (jI 1), ?_, fr_t, rfl, 0, rfl, by decide, gi_s⟩)
    · simp (disch := omega) only [f_X11_last, ckL_n I ⟨z1a, z1b⟩ cL, jL, jJ, jI_lt, jI_le, jI_eq, jI_nat, jBt, jBo, gi_, gl_, x_let, if_pos, if_neg, if_true, Option.bind_some, tvz, tvo, wd_j, and_self, true_and, and_true, Int.toNat_zero, Int.toNat_natCast, xb_v, xb_e, isb0, isb1, gil, gl2, wd_i, wd_l]
    · have ew : wd x (x_i H (x + 64) 0 (jI 0)) = wd x h := by rw [wm0, eH]
      have e1 := ckL_rn J.m0 ⟨z1a, z1b⟩ (by rw [ew]; exact cL)
      simp (disch := omega) only [f_X12_last, f_X12_last_42, jL, jJ, jI_lt, jI_le, jI_eq, jI_nat, jBt, jBo, gi_, gl_, x_let, if_pos, if_neg, if_true, Option.bind_some, tvz, tvo, wd_j, and_self, true_and, and_true, Int.toNat_zero, Int.toNat_natCast, xb_v, xb_e, isb0, isb1, gil, gl2, wd_i, wd_l, e1]
