/-! ===== guesses: what they are worth ===== -/
theorem tl_52 {w : Nat → Int} {b : Nat} {ru : Bool} {g : Int → Int} (hx : WTx w b ru) (hg : ∀ s, 0 ≤ s → s < (if ru then 4 else 8) → 0 ≤ g s ∧ g s ≤ 52) : -519480 ≤ tl_ w b g ∧ tl_ w b g ≤ 519480 := by
  have h := sm_b (n := (w b).toNat) (f := vl_ w b g) (lo := -51948) (hi := 51948) (fun i hi => by
    obtain ⟨l1, l2, l3, l4, l5, -⟩ := hx.2.2.1 i (by omega)
    unfold vl_
    split
    · omega
    · have a : -999 ≤ (if w (b + 1 + 5 * i) = 0 then w (b + 2 + 5 * i) else -(w (b + 2 + 5 * i))) ∧ (if w (b + 1 + 5 * i) = 0 then w (b + 2 + 5 * i) else -(w (b + 2 + 5 * i))) ≤ 999 := by split <;> omega
      have c : 0 ≤ (if w (b + 3 + 5 * i) < 0 then 1 else g (w (b + 3 + 5 * i))) ∧ (if w (b + 3 + 5 * i) < 0 then 1 else g (w (b + 3 + 5 * i))) ≤ 52 := by
        split
        · omega
        · exact hg _ (by omega) l5
      generalize (if w (b + 1 + 5 * i) = 0 then w (b + 2 + 5 * i) else -(w (b + 2 + 5 * i))) = u at a
      generalize (if w (b + 3 + 5 * i) < 0 then 1 else g (w (b + 3 + 5 * i))) = v at c
      have m1 := Int.mul_le_mul_of_nonneg_right a.2 c.1
      have m2 := Int.mul_le_mul_of_nonneg_right a.1 c.1
      omega)
  have h0 := hx.1
  have h1 := hx.2.1
  unfold tl_
  omega
theorem tt_c {hit : Nat → Nat → Nat} {M R : Nat} {f f' : Nat → Int} (h1 : ∀ a k, hit a k ≤ 1) (e : ∀ r, r ≤ R → f r = f' r) : ∀ rem at' used right, right + rem ≤ R → tt_ hit M f rem at' used right = tt_ hit M f' rem at' used right := by
  intro rem
  induction rem with
  | zero => intro at' used right h; exact e right (by omega)
  | succ rem ih =>
    intro at' used right h
    unfold tt_
    refine sm_c fun k hk => ?_
    by_cases c : used.testBit k = true
    · rw [if_pos c, if_pos c]
    · rw [if_neg c, if_neg c, ih _ _ _ (by have := h1 at' k; omega)]
def sc9_ (w : Nat → Int) (t p g : Nat) (r : Nat) : Int := tl_ w (3523 + 851 * t) (rg_ (kn_ w p 0 (w (290 + 81 * p + 2)).toNat + r) (kn_ w p 1 (w (290 + 81 * p + 2)).toNat - g) (w (290 + 81 * p + 2)))
def GS_ (w : Nat → Int) (t p M g : Nat) : Int := tt_ (ht9_ w p) M (sc9_ w t p g) g 0 0 0
theorem GS_b {gh : Nat} {x : Nat} {K : XK} {h : XH} (I : Inv gh x K h) {t p M g : Nat} (hp : (p : Int) < wd x h 1) (ht : (t : Int) < wd x h 3) (hM : M ≤ 6) (hg : g ≤ 5) (hb : (g : Int) ≤ kn_ (wd x h) p 1 (wd x h (290 + 81 * p + 2)).toNat) : -374025600 ≤ GS_ (wd x h) t p M g ∧ GS_ (wd x h) t p M g ≤ 374025600 := by
  obtain ⟨-, -, -, -, -, -, p7, p8, -⟩ := I.wp hp
  have k2 := kn_2 (w := wd x h) (p := p) (n := (wd x h (290 + 81 * p + 2)).toNat)
  have k0 := kn_b (w := wd x h) (p := p) (k := 0) (n := (wd x h (290 + 81 * p + 2)).toNat)
  have hx := I.wr ht
  have fb : ∀ r : Nat, -519480 ≤ (if r ≤ g then sc9_ (wd x h) t p g r else 0) ∧ (if r ≤ g then sc9_ (wd x h) t p g r else 0) ≤ 519480 := fun r => by
    by_cases c : r ≤ g
    · rw [if_pos c]
      refine tl_52 hx (fun s s0 s1 => ?_)
      rw [if_pos rfl] at s1
      unfold rg_
      split
      · omega
      · split
        · omega
        · split
          · omega
          · split
            · omega
            · split
              · split <;> omega
              · omega
    · rw [if_neg c]
      omega
  have e := tt_c (hit := ht9_ (wd x h) p) (M := M) (R := g) (f := sc9_ (wd x h) t p g) (f' := fun r => if r ≤ g then sc9_ (wd x h) t p g r else 0) ht9_b (fun r hr => (if_pos hr).symm) g 0 0 0 (by omega)
  have b := tt_b (hit := ht9_ (wd x h) p) (M := M) (f := fun r => if r ≤ g then sc9_ (wd x h) t p g r else 0) (lo := -519480) (hi := 519480) (by omega) (by omega) fb g 0 0 0
  have n := (tN_720 ⟨M, by omega⟩ ⟨g, by omega⟩).1
  have n' : tN_ M g 0 ≤ 720 := n
  unfold GS_
  rw [e]
  omega
def gq_ (S A : Nat → Int) : Nat → Nat × Int × Int
  | 0 => (0, S 0, A 0)
  | g + 1 => if 0 < lg_cmp (lI (S (g + 1)) * lI (gq_ S A g).2.2) (lI (gq_ S A g).2.1 * lI (A (g + 1))) then (g + 1, S (g + 1), A (g + 1)) else gq_ S A g
theorem gq_e {S A : Nat → Int} : ∀ n, (gq_ S A n).1 ≤ n ∧ (gq_ S A n).2.1 = S (gq_ S A n).1 ∧ (gq_ S A n).2.2 = A (gq_ S A n).1 := by
  intro n
  induction n with
  | zero => exact ⟨Nat.le_refl _, rfl, rfl⟩
  | succ n ih =>
    unfold gq_
    split
    · exact ⟨Nat.le_refl _, rfl, rfl⟩
    · exact ⟨by omega, ih.2⟩
theorem jdz {a : Int} {b : Nat} (h1 : -2147483648 < a) (h2 : a < 2147483648) (h0 : 0 < b) (hb : b < 2147483648) : jI a / jI (b : Int) = jI (a.tdiv b) := by
  have t1 : (a.tdiv b).natAbs ≤ a.natAbs := by
    rw [Int.natAbs_tdiv]
    exact Nat.div_le_self _ _
  rw [← Int32.toInt_inj, Int32.toInt_div_of_ne_right _ _ (fun e => by
    have := congrArg Int32.toInt e
    rw [jI_toInt (by omega) (by omega)] at this
    have h9 : (-1 : Int32).toInt = -1 := by decide
    omega), jI_toInt (by omega) h2, jI_toInt (by omega) (by omega), jI_toInt (by omega) (by omega)]
theorem ldz {a : Int} {b : Nat} (h1 : -2147483648 < a) (h2 : a < 2147483648) (h0 : 0 < b) (hb : b < 2147483648) : (lI a / lI (b : Int)).toInt32 = jI (a.tdiv b) := by
  have t1 : (a.tdiv b).natAbs ≤ a.natAbs := by
    rw [Int.natAbs_tdiv]
    exact Nat.div_le_self _ _
  have e : lI a / lI (b : Int) = lI (a.tdiv b) := by
    rw [← Int64.toInt_inj, Int64.toInt_div_of_ne_right _ _ (fun e => by
      have := congrArg Int64.toInt e
      rw [lI_toInt (by omega) (by omega)] at this
      have h9 : (-1 : Int64).toInt = -1 := by decide
      omega), lI_toInt (by omega) (by omega), lI_toInt (by omega) (by omega), lI_toInt (by omega) (by omega)]
  rw [e, lI_j (by omega) (by omega)]
theorem Fr.o5 {x : Nat} {h h2 : XH} {o1 o2 o3 o4 o5 : Nat} (f : ∀ a, a ≠ x + o1 → a ≠ x + o2 → a ≠ x + o3 → a ≠ x + o4 → a ≠ x + o5 → h2.1 a = h.1 a) (e : h2.2.2 = h.2.2) (m1 : o1 ∈ sc_) (m2 : o2 ∈ sc_) (m3 : o3 ∈ sc_) (m4 : o4 ∈ sc_) (m5 : o5 ∈ sc_) : Fr x h h2 := by
  have q : ∀ o, o ∈ sc_ → o ≠ 1 ∧ o ≠ 64 := by decide
  have a1 := q o1 m1
  have a2 := q o2 m2
  have a3 := q o3 m3
  have a4 := q o4 m4
  have a5 := q o5 m5
  have e1 : h2.1 (x + 1) = h.1 (x + 1) := f _ (by omega) (by omega) (by omega) (by omega) (by omega)
  have e64 : h2.1 (x + 64) = h.1 (x + 64) := f _ (by omega) (by omega) (by omega) (by omega) (by omega)
  exact ⟨fun a h1 _ _ => f a (h1 o1 m1) (h1 o2 m2) (h1 o3 m3) (h1 o4 m4) (h1 o5 m5), by rw [e1], by rw [e1], by rw [e64], by rw [e64], by rw [e64], e⟩
/-- the best so far, as it lies in the component -/
def BQ (x : Nat) (h : XH) (q : Nat × Int × Int) : Prop := h.1 (x + 51) 3 = jI (q.1 : Int) ∧ h.2.1 (x + 51) 4 = lI q.2.1 ∧ h.2.1 (x + 51) 5 = lI q.2.2
theorem c_take {gh : Nat} {x : Nat} {K : XK} {h h1 : XH} (I : Inv gh x K h) {t p M g r : Nat} (hp : (p : Int) < wd x h 1) (ht : (t : Int) < wd x h 3) (ct : CTx x K h r (wd x h) (3523 + 851 * t) true) (hM : M ≤ 6) (hg : g ≤ 5) (hb : (g : Int) ≤ kn_ (wd x h) p 1 (wd x h (290 + 81 * p + 2)).toNat) (f1 : ∀ a, a ≠ x + 44 → a ≠ x + 45 → a ≠ x + 51 → a ≠ x + 52 → a ≠ x + 53 → h1.1 a = h.1 a) (f2 : h1.2.2 = h.2.2) (ws : WS x h1 (fun r => tt_ (ht9_ (wd x h) p) M (in_ r) g 0 0 0)) (bq : ∀ g', g = g' + 1 → BQ x h1 (gq_ (GS_ (wd x h) t p M) (fun g => (tN_ M g 0 : Int)) g')) :
    ∃ h2, f_X1_takeIfBetter K x h1 (some r) (x + 13 + 6 + 3 * p) (jI g) = some h2 ∧ (∀ a, a ≠ x + 44 → a ≠ x + 45 → a ≠ x + 51 → a ≠ x + 52 → a ≠ x + 53 → h2.1 a = h.1 a) ∧ h2.2.2 = h.2.2 ∧ h2.1 (x + 52) = h1.1 (x + 52) ∧ BQ x h2 (gq_ (GS_ (wd x h) t p M) (fun g => (tN_ M g 0 : Int)) g) := by
  have w1 := I.w1
  have hx := I.wr ht
  have rr := ct.1
  obtain ⟨-, -, -, -, -, -, p7, p8, -⟩ := I.wp hp
  have k2 := kn_2 (w := wd x h) (p := p) (n := (wd x h (290 + 81 * p + 2)).toNat)
  have k0 := kn_b (w := wd x h) (p := p) (k := 0) (n := (wd x h (290 + 81 * p + 2)).toNat)
  have F : Fr x h h1 := Fr.o5 f1 f2 (by decide) (by decide) (by decide) (by decide) (by decide)
  have ew := F.ew
  have rg := c_rgt (I.fr F) (p := p) (by rw [ew]; exact hp)
  have bk := c_blk (I.fr F) (p := p) (by rw [ew]; exact hp)
  rw [ew] at rg bk
  have n7 : tN_ M g 0 ≤ 720 := (tN_720 ⟨M, by omega⟩ ⟨g, by omega⟩).1
  have Wb : ∀ r, 0 ≤ tt_ (ht9_ (wd x h) p) M (in_ r) g 0 0 0 ∧ tt_ (ht9_ (wd x h) p) M (in_ r) g 0 0 0 ≤ 720 := fun r => by
    have := tt_b (hit := ht9_ (wd x h) p) (M := M) (f := in_ r) (lo := 0) (hi := 1) (by omega) (by omega) (fun q => by unfold in_; split <;> omega) g 0 0 0
    omega
  have tS := tt_w (hit := ht9_ (wd x h) p) (M := M) (R := g) (f := sc9_ (wd x h) t p g) ht9_b g 0 0 0 (by omega)
  have tA := tt_w (hit := ht9_ (wd x h) p) (M := M) (R := g) (f := fun _ => 1) ht9_b g 0 0 0 (by omega)
  rw [tN_e] at tA
  simp only [Int.mul_one] at tA
  have tS' : sm_ (g + 1) (fun r => tt_ (ht9_ (wd x h) p) M (in_ r) g 0 0 0 * sc9_ (wd x h) t p g r) = GS_ (wd x h) t p M g := tS
  have tA' : sm_ (g + 1) (fun r => tt_ (ht9_ (wd x h) p) M (in_ r) g 0 0 0) = (tN_ M g 0 : Int) := tA
  generalize hW : (fun r => tt_ (ht9_ (wd x h) p) M (in_ r) g 0 0 0) = W at ws tA'
  have eW : ∀ r, tt_ (ht9_ (wd x h) p) M (in_ r) g 0 0 0 = W r := fun r => by rw [← hW]
  simp only [eW] at tS' Wb
  unfold f_X1_takeIfBetter
  rw [rg, Option.bind_some, bk, Option.bind_some]
  have key := x_up0 (P := fun m n => ∀ h3 : XH, (∀ a, a ≠ x + 44 → a ≠ x + 45 → h3.1 a = h1.1 a) → h3.2 = h1.2 → ∃ h2, f_X1_takeIfBetter_21 K x m h3 (some r) (x + 13 + 6 + 3 * p) (jI g) (lI (sm_ n (fun r => W r * sc9_ (wd x h) t p g r))) (lI (sm_ n W)) (jI (kn_ (wd x h) p 0 (wd x h (290 + 81 * p + 2)).toNat)) (jI (kn_ (wd x h) p 1 (wd x h (290 + 81 * p + 2)).toNat)) (jI (n : Int)) = some h2 ∧ (∀ a, a ≠ x + 44 → a ≠ x + 45 → a ≠ x + 51 → a ≠ x + 52 → a ≠ x + 53 → h2.1 a = h.1 a) ∧ h2.2.2 = h.2.2 ∧ h2.1 (x + 52) = h1.1 (x + 52) ∧ BQ x h2 (gq_ (GS_ (wd x h) t p M) (fun g => (tN_ M g 0 : Int)) g)) (g + 1) (by omega) (fun m h3 g1 g2 => by
    have set : ∃ h2, f_X1_takeIfBetter_103 K x h3 (jI g) (lI (GS_ (wd x h) t p M g)) (lI (tN_ M g 0 : Int)) = some h2 ∧ (∀ a, a ≠ x + 44 → a ≠ x + 45 → a ≠ x + 51 → a ≠ x + 52 → a ≠ x + 53 → h2.1 a = h.1 a) ∧ h2.2.2 = h.2.2 ∧ h2.1 (x + 52) = h1.1 (x + 52) ∧ BQ x h2 (g, GS_ (wd x h) t p M g, (tN_ M g 0 : Int)) := by
      refine ⟨_, rfl, fun a n1 n2 n3 n4 n5 => ?_, ?_, ?_, ?_, ?_, ?_⟩
      · show (x_i h3 (x + 51) 3 (jI g)).1 a = _
        rw [gi_n n3, g1 a n1 n2]
        exact f1 a n1 n2 n3 n4 n5
      · show h3.2.2 = _
        rw [g2]
        exact f2
      · show (x_i h3 (x + 51) 3 (jI g)).1 (x + 52) = _
        rw [gi_n (by omega), g1 _ (by omega) (by omega)]
      · show (x_i h3 (x + 51) 3 (jI g)).1 (x + 51) 3 = _
        exact gi_s
      · rw [gl2, if_neg (by omega), gl2, if_pos ⟨rfl, rfl⟩]
      · rw [gl2, if_pos ⟨rfl, rfl⟩]
    rw [f_X1_takeIfBetter_21, if_pos ((jI_lt (by omega) (by omega) (by omega) (by omega)).mpr (by omega)), tS', tA']
    by_cases c : g = 0
    · rw [if_pos (show jI (g : Int) = (0 : Int32) by rw [c]; rfl)]
      obtain ⟨h2, s1, s2, s3, s4, s5⟩ := set
      refine ⟨h2, s1, s2, s3, s4, ?_⟩
      subst c
      exact s5
    · obtain ⟨g', rfl⟩ : ∃ g', g = g' + 1 := ⟨g - 1, by omega⟩
      have b := bq g' rfl
      have b4 : h3.2.1 (x + 51) 4 = lI (gq_ (GS_ (wd x h) t p M) (fun g => (tN_ M g 0 : Int)) g').2.1 := by rw [g2]; exact b.2.1
      have b5 : h3.2.1 (x + 51) 5 = lI (gq_ (GS_ (wd x h) t p M) (fun g => (tN_ M g 0 : Int)) g').2.2 := by rw [g2]; exact b.2.2
      have b3 : h3.1 (x + 51) 3 = jI ((gq_ (GS_ (wd x h) t p M) (fun g => (tN_ M g 0 : Int)) g').1 : Int) := by rw [g1 _ (by omega) (by omega)]; exact b.1
      have e : gq_ (GS_ (wd x h) t p M) (fun g => (tN_ M g 0 : Int)) (g' + 1) = if 0 < lg_cmp (lI (GS_ (wd x h) t p M (g' + 1)) * lI (gq_ (GS_ (wd x h) t p M) (fun g => (tN_ M g 0 : Int)) g').2.2) (lI (gq_ (GS_ (wd x h) t p M) (fun g => (tN_ M g 0 : Int)) g').2.1 * lI (tN_ M (g' + 1) 0 : Int)) then (g' + 1, GS_ (wd x h) t p M (g' + 1), (tN_ M (g' + 1) 0 : Int)) else gq_ (GS_ (wd x h) t p M) (fun g => (tN_ M g 0 : Int)) g' := rfl
      rw [if_neg (j_ne0 (by omega) (by omega) (by omega)), b4, b5, e]
      by_cases d : 0 < lg_cmp (lI (GS_ (wd x h) t p M (g' + 1)) * lI (gq_ (GS_ (wd x h) t p M) (fun g => (tN_ M g 0 : Int)) g').2.2) (lI (gq_ (GS_ (wd x h) t p M) (fun g => (tN_ M g 0 : Int)) g').2.1 * lI (tN_ M (g' + 1) 0 : Int))
      · rw [if_neg (fun q => absurd d (Int32.not_lt.mpr q)), if_pos d]
        exact set
      · rw [if_pos (Int32.not_lt.mp d), if_neg d]
        refine ⟨h3, rfl, fun a n1 n2 n3 n4 n5 => by rw [g1 a n1 n2]; exact f1 a n1 n2 n3 n4 n5, by rw [g2]; exact f2, g1 _ (by omega) (by omega), b3, b4, b5⟩) (fun m n hn ih h3 g1 g2 => by
    have c' : CTx x K h3 r (wd x h) (3523 + 851 * t) true := ct.c ⟨hx.1, hx.2.1⟩ (fun _ _ _ => rfl) (fun a q1 _ => by rw [g1 a (by omega) (by omega)]; exact f1 a (by omega) (by omega) (by omega) (by omega) (by omega)) (fun _ _ _ => rfl)
    have e2 : h3.1 (x + 13 + 6 + 3 * p) 2 = jI (wd x h (290 + 81 * p + 2)) := by
      rw [g1 _ (by omega) (by omega), f1 _ (by omega) (by omega) (by omega) (by omega) (by omega)]
      exact (I.pk hp).2.2.1
    have e53 : h3.1 (x + 53) n = jI (W n) := by
      rw [g1 _ (by omega) (by omega)]
      exact ws n (by omega)
    obtain ⟨h5, s1, s2, s3⟩ := c_sco c' hx (ri := kn_ (wd x h) p 0 (wd x h (290 + 81 * p + 2)).toNat + (n : Int)) (bl := kn_ (wd x h) p 1 (wd x h (290 + 81 * p + 2)).toNat - (g : Int)) (n := wd x h (290 + 81 * p + 2)) (by omega) (by omega) (by omega) p8
    have wn := Wb n
    rw [f_X1_takeIfBetter_21, if_neg (fun q => absurd ((jI_lt (by omega) (by omega) (by omega) (by omega)).mp q) (by omega)), if_pos (jI_b (by omega) (by omega) (by omega)), jI_add, jI_sub, e2, s1, Option.bind_some, xl_, if_pos (jI_b (by omega) (by omega) (by omega)), xl_, nat_ (by omega), s2 _ (by omega) (by omega), e53, jI_l (by omega) (by omega), lI_mul, lI_add, lI_add, jI_s]
    exact ih h5 (fun a q1 q2 => by rw [s2 a q1 q2, g1 a q1 q2]) (by rw [s3, g2]))
  exact key h1 (fun _ _ _ => rfl) rfl
theorem c_wei {gh : Nat} {x : Nat} {K : XK} {h : XH} (T : x_T x K h) (I : Inv gh x K h) {t p M mo r : Nat} (hp : (p : Int) < wd x h 1) (ht : (t : Int) < wd x h 3) (ct : CTx x K h r (wd x h) (3523 + 851 * t) true) (hM : (M : Int) = if lm_ (wd x h) p (wd x h (290 + 81 * p + 2)).toNat < 6 then lm_ (wd x h) p (wd x h (290 + 81 * p + 2)).toNat else 6) (hmo : (mo : Int) = if (if kn_ (wd x h) p 1 (wd x h (290 + 81 * p + 2)).toNat < lm_ (wd x h) p (wd x h (290 + 81 * p + 2)).toNat then kn_ (wd x h) p 1 (wd x h (290 + 81 * p + 2)).toNat else lm_ (wd x h) p (wd x h (290 + 81 * p + 2)).toNat) < 5 then (if kn_ (wd x h) p 1 (wd x h (290 + 81 * p + 2)).toNat < lm_ (wd x h) p (wd x h (290 + 81 * p + 2)).toNat then kn_ (wd x h) p 1 (wd x h (290 + 81 * p + 2)).toNat else lm_ (wd x h) p (wd x h (290 + 81 * p + 2)).toNat) else 5) :
    ∃ h2, f_X1_weigh K x h (some r) (x + 13 + 6 + 3 * p) = some h2 ∧ (∀ a, a ≠ x + 44 → a ≠ x + 45 → a ≠ x + 51 → a ≠ x + 52 → a ≠ x + 53 → h2.1 a = h.1 a) ∧ h2.2.2 = h.2.2 ∧ BQ x h2 (gq_ (GS_ (wd x h) t p M) (fun g => (tN_ M g 0 : Int)) mo) := by
  have w1 := I.w1
  obtain ⟨-, -, -, -, -, -, p7, p8, -⟩ := I.wp hp
  have lb := lm_b (w := wd x h) (p := p) (n := (wd x h (290 + 81 * p + 2)).toNat)
  have kb := kn_b (w := wd x h) (p := p) (k := 1) (n := (wd x h (290 + 81 * p + 2)).toNat)
  have k53 : (K (x + 53)).2 = 6 := by rw [tk_ T (j := 53) (by omega) rfl]
  have M6 : M ≤ 6 := by
    split at hM <;> omega
  have Ml : (M : Int) ≤ lm_ (wd x h) p (wd x h (290 + 81 * p + 2)).toNat := by
    split at hM <;> omega
  have mb : mo ≤ 5 ∧ (mo : Int) ≤ kn_ (wd x h) p 1 (wd x h (290 + 81 * p + 2)).toNat ∧ mo ≤ M := by
    split at hM <;> split at hmo <;> split at hmo <;> omega
  obtain ⟨h4, o1, o2, o3, o4⟩ := c_own I hp Ml M6 mb.2.1 mb.1
  have mn1 : f_J9_min_7cf53 h (jI (lm_ (wd x h) p (wd x h (290 + 81 * p + 2)).toNat)) 6 = jI M := by
    unfold f_J9_min_7cf53
    by_cases c : lm_ (wd x h) p (wd x h (290 + 81 * p + 2)).toNat < 6
    · rw [if_pos c] at hM
      rw [if_neg (show ¬ (6 : Int32) < jI (lm_ (wd x h) p (wd x h (290 + 81 * p + 2)).toNat) from fun q => absurd ((jI_lt (a := 6) (by omega) (by omega) (by omega) (by omega)).mp q) (by omega)), ← hM]
    · rw [if_neg c] at hM
      by_cases d : 6 < lm_ (wd x h) p (wd x h (290 + 81 * p + 2)).toNat
      · rw [if_pos (show (6 : Int32) < jI (lm_ (wd x h) p (wd x h (290 + 81 * p + 2)).toNat) from (jI_lt (a := 6) (by omega) (by omega) (by omega) (by omega)).mpr d), hM]; rfl
      · rw [if_neg (show ¬ (6 : Int32) < jI (lm_ (wd x h) p (wd x h (290 + 81 * p + 2)).toNat) from fun q => d ((jI_lt (a := 6) (by omega) (by omega) (by omega) (by omega)).mp q)), hM, show lm_ (wd x h) p (wd x h (290 + 81 * p + 2)).toNat = 6 by omega]
  have mn2 : f_J9_min_7cf53 h (f_J9_min_7cf53 h (jI (kn_ (wd x h) p 1 (wd x h (290 + 81 * p + 2)).toNat)) (jI (lm_ (wd x h) p (wd x h (290 + 81 * p + 2)).toNat))) 5 = jI mo := by
    have e1 : f_J9_min_7cf53 h (jI (kn_ (wd x h) p 1 (wd x h (290 + 81 * p + 2)).toNat)) (jI (lm_ (wd x h) p (wd x h (290 + 81 * p + 2)).toNat)) = jI (if kn_ (wd x h) p 1 (wd x h (290 + 81 * p + 2)).toNat < lm_ (wd x h) p (wd x h (290 + 81 * p + 2)).toNat then kn_ (wd x h) p 1 (wd x h (290 + 81 * p + 2)).toNat else lm_ (wd x h) p (wd x h (290 + 81 * p + 2)).toNat) := by
      unfold f_J9_min_7cf53
      have l : jI (lm_ (wd x h) p (wd x h (290 + 81 * p + 2)).toNat) < jI (kn_ (wd x h) p 1 (wd x h (290 + 81 * p + 2)).toNat) ↔ lm_ (wd x h) p (wd x h (290 + 81 * p + 2)).toNat < kn_ (wd x h) p 1 (wd x h (290 + 81 * p + 2)).toNat := jI_lt (by omega) (by omega) (by omega) (by omega)
      by_cases c : lm_ (wd x h) p (wd x h (290 + 81 * p + 2)).toNat < kn_ (wd x h) p 1 (wd x h (290 + 81 * p + 2)).toNat
      · rw [if_pos (l.mpr c), if_neg (by omega)]
      · rw [if_neg (fun q => c (l.mp q))]
        by_cases d : kn_ (wd x h) p 1 (wd x h (290 + 81 * p + 2)).toNat < lm_ (wd x h) p (wd x h (290 + 81 * p + 2)).toNat
        · rw [if_pos d]
        · rw [if_neg d, show kn_ (wd x h) p 1 (wd x h (290 + 81 * p + 2)).toNat = lm_ (wd x h) p (wd x h (290 + 81 * p + 2)).toNat by omega]
    rw [e1]
    have ub : 0 ≤ (if kn_ (wd x h) p 1 (wd x h (290 + 81 * p + 2)).toNat < lm_ (wd x h) p (wd x h (290 + 81 * p + 2)).toNat then kn_ (wd x h) p 1 (wd x h (290 + 81 * p + 2)).toNat else lm_ (wd x h) p (wd x h (290 + 81 * p + 2)).toNat) ∧ (if kn_ (wd x h) p 1 (wd x h (290 + 81 * p + 2)).toNat < lm_ (wd x h) p (wd x h (290 + 81 * p + 2)).toNat then kn_ (wd x h) p 1 (wd x h (290 + 81 * p + 2)).toNat else lm_ (wd x h) p (wd x h (290 + 81 * p + 2)).toNat) ≤ 52 := by split <;> omega
    generalize (if kn_ (wd x h) p 1 (wd x h (290 + 81 * p + 2)).toNat < lm_ (wd x h) p (wd x h (290 + 81 * p + 2)).toNat then kn_ (wd x h) p 1 (wd x h (290 + 81 * p + 2)).toNat else lm_ (wd x h) p (wd x h (290 + 81 * p + 2)).toNat) = u at hmo ub
    unfold f_J9_min_7cf53
    by_cases c : 5 < u
    · rw [if_pos (show (5 : Int32) < jI u from (jI_lt (a := 5) (by omega) (by omega) (by omega) (by omega)).mpr c), hmo, if_neg (by omega)]; rfl
    · rw [if_neg (show ¬ (5 : Int32) < jI u from fun q => c ((jI_lt (a := 5) (by omega) (by omega) (by omega) (by omega)).mp q)), hmo]
      by_cases d : u < 5
      · rw [if_pos d]
      · rw [if_neg d, show u = 5 by omega]
  unfold f_X1_weigh
  rw [c_lackC I hp, Option.bind_some, c_blk I hp, Option.bind_some, mn2, xl_, mn1, o1, Option.bind_some]
  have how : ∀ a, a < mo → -1 ≤ owl_ (wd x h) p (cd_ (wd x h) p (bx_ (wd x h) p a)) M ∧ owl_ (wd x h) p (cd_ (wd x h) p (bx_ (wd x h) p a)) M < 6 ∧ ∀ k : Nat, k < M → ht9_ (wd x h) p a k = if owl_ (wd x h) p (cd_ (wd x h) p (bx_ (wd x h) p a)) M = k then 1 else 0 := fun a ha => by
    have b := owl_b (w := wd x h) (p := p) (c := cd_ (wd x h) p (bx_ (wd x h) p a)) M
    refine ⟨b.1, by omega, fun k hk => ?_⟩
    have oe := owl_e (w := wd x h) (p := p) (c := cd_ (wd x h) p (bx_ (wd x h) p a)) (I.wp hp) M Ml k hk
    unfold ht9_
    by_cases q : lo_ (wd x h) p k = cd_ (wd x h) p (bx_ (wd x h) p a)
    · rw [if_pos q, if_pos (oe.mpr q)]
    · rw [if_neg q, if_neg (fun z => q (oe.mp z))]
  have key := x_up0 (P := fun m n => ∀ h1 : XH, (∀ a, a ≠ x + 44 → a ≠ x + 45 → a ≠ x + 51 → a ≠ x + 52 → a ≠ x + 53 → h1.1 a = h.1 a) → h1.2.2 = h.2.2 → (∀ a, a < mo → h1.1 (x + 52) a = jI (owl_ (wd x h) p (cd_ (wd x h) p (bx_ (wd x h) p a)) M)) → (∀ g', n = g' + 1 → BQ x h1 (gq_ (GS_ (wd x h) t p M) (fun g => (tN_ M g 0 : Int)) g')) → ∃ h2, f_X1_weigh_39 K x m h1 (some r) (x + 13 + 6 + 3 * p) (jI M) (jI mo) (jI (n : Int)) = some h2 ∧ (∀ a, a ≠ x + 44 → a ≠ x + 45 → a ≠ x + 51 → a ≠ x + 52 → a ≠ x + 53 → h2.1 a = h.1 a) ∧ h2.2.2 = h.2.2 ∧ BQ x h2 (gq_ (GS_ (wd x h) t p M) (fun g => (tN_ M g 0 : Int)) mo)) (mo + 1) (by omega) (fun m h1 f1 f2 f3 f4 => by
    refine ⟨h1, ?_, f1, f2, f4 mo rfl⟩
    rw [f_X1_weigh_39, if_pos ((jI_lt (by omega) (by omega) (by omega) (by omega)).mpr (by omega))]) (fun m n hn ih h1 f1 f2 f3 f4 => by
    obtain ⟨N6, hN6⟩ : ∃ N6 : Nat, N6 = 6 := ⟨_, rfl⟩
    rw [← hN6] at k53
    have fl := fill_ (h := h1) (v0 := x + 53) (v := 0) k53 (by omega)
    have z : WS x (wr_ (x + 53) 0 (fun _ => 0) N6 h1) (fun _ => 0) := fun q hq => by
      have e : (wr_ (x + 53) 0 (fun _ => 0) N6 h1).1 (x + 53) (0 + q) = jI 0 := wr_i (by omega)
      rw [Nat.zero_add] at e
      exact e
    obtain ⟨h6, s1, s2, s3, s4⟩ := c_spr (x := x) (g := n) (M := M) (hit := ht9_ (wd x h) p) (ow := fun a => owl_ (wd x h) p (cd_ (wd x h) p (bx_ (wd x h) p a)) M) (by omega) M6 (fun a ha => how a (by omega)) n 0 0 0 7 (wr_ (x + 53) 0 (fun _ => 0) N6 h1) (fun _ => 0) (by omega) (by omega) (by omega) (by omega) z (fun a ha => by rw [wr_n (by omega)]; exact f3 a (by omega))
    have s2' : WS x h6 (fun r => tt_ (ht9_ (wd x h) p) M (in_ r) n 0 0 0) := fun q hq => by
      have := s2 q hq
      dsimp only at this
      rw [Int.zero_add] at this
      exact this
    have f6 : ∀ a, a ≠ x + 44 → a ≠ x + 45 → a ≠ x + 51 → a ≠ x + 52 → a ≠ x + 53 → h6.1 a = h.1 a := fun a n1 n2 n3 n4 n5 => by rw [s3 a n5, wr_n n5]; exact f1 a n1 n2 n3 n4 n5
    have g6 : h6.2 = h1.2 := by rw [s4, wr_2]
    obtain ⟨h7, k1, k2, k3, k4, k5⟩ := c_take I hp ht ct M6 (by omega) (by omega) f6 (by rw [g6]; exact f2) s2' (fun g' e => by
      have b := f4 g' e
      refine ⟨?_, ?_, ?_⟩
      · rw [s3 _ (by omega), wr_n (by omega)]; exact b.1
      · rw [g6]; exact b.2.1
      · rw [g6]; exact b.2.2)
    rw [f_X1_weigh_39, if_neg (fun q => absurd ((jI_lt (by omega) (by omega) (by omega) (by omega)).mp q) (by omega)), show (0 : Int32) = jI 0 from rfl, fl, Option.bind_some]
    rw [show f_X1_spread x 7 (wr_ (x + 53) 0 (fun _ => 0) N6 h1) (jI (n : Int)) (jI M) (jI 0) (jI 0) (jI 0) = some h6 from s1, Option.bind_some, k1, Option.bind_some, jI_s]
    exact ih h7 k2 k3 (fun a ha => by rw [k4, s3 _ (by omega), wr_n (by omega)]; exact f3 a ha) (fun g' e => by
      rw [show g' = n by omega]
      exact k5))
  exact key h4 (fun a n1 n2 n3 n4 n5 => o2 a n4) (by rw [o3]) o4 (fun g' e => absurd e (by omega))
