/-! ===== what a pack lacks ===== -/
def sd_ (w : Nat → Int) (p : Nat) (c : Int) : Nat → Bool
  | 0 => false
  | n + 1 => sd_ w p c n || decide (w (290 + 81 * p + 29 + n) = c)
def isd_ (w : Nat → Int) (p : Nat) (c : Int) : Bool := sd_ w p c (w (290 + 81 * p + 2)).toNat
def lm_ (w : Nat → Int) (p n : Nat) : Int := sm_ n (fun i => if isd_ w p (cd_ w p i) = true then 0 else 1)
def la_ (w : Nat → Int) (p : Nat) : Nat → Nat → Int → Int
  | 0, _, _ => -1
  | n + 1, i, l => if isd_ w p (cd_ w p i) = true then la_ w p n (i + 1) l else if l = 0 then cd_ w p i else la_ w p n (i + 1) (l - 1)
def lo_ (w : Nat → Int) (p : Nat) (l : Int) : Int := la_ w p (w (290 + 81 * p + 2)).toNat 0 l
theorem lm_b {w : Nat → Int} {p n : Nat} : 0 ≤ lm_ w p n ∧ lm_ w p n ≤ n := by
  have h := sm_b (n := n) (f := fun i => if isd_ w p (cd_ w p i) = true then (0 : Int) else 1) (lo := 0) (hi := 1) (fun i _ => by
    show 0 ≤ (if isd_ w p (cd_ w p i) = true then (0 : Int) else 1) ∧ (if isd_ w p (cd_ w p i) = true then (0 : Int) else 1) ≤ 1
    split <;> omega)
  unfold lm_
  omega
theorem la_b {w : Nat → Int} {p : Nat} : ∀ n i l, -1 ≤ la_ w p n i l ∧ la_ w p n i l < 52 := by
  intro n
  induction n with
  | zero => intro i l; simp [la_]
  | succ n ih =>
    intro i l
    unfold la_
    have := cd_b w p i
    split
    · exact ih _ _
    · split
      · omega
      · exact ih _ _
theorem c_said {gh : Nat} {x : Nat} {K : XK} {h : XH} (I : Inv gh x K h) {p : Nat} (hp : (p : Int) < wd x h 1) : ∃ B : Int64, f_X2_saidCards (x + 13 + 6 + 3 * p) h = some B ∧ ∀ c : Nat, c < 52 → bl_ B c = isd_ (wd x h) p (c : Int) := by
  have pk := I.pk hp
  obtain ⟨-, -, -, -, -, -, p7, p8, -, -, -, -, p13, -⟩ := I.wp hp
  have e2 := pk.2.2.1
  refine x_up0 (P := fun m n => ∀ B : Int64, (∀ c : Nat, c < 52 → bl_ B c = sd_ (wd x h) p (c : Int) n) → ∃ B' : Int64, f_X2_saidCards_4 (x + 13 + 6 + 3 * p) h m B (jI (n : Int)) = some B' ∧ ∀ c : Nat, c < 52 → bl_ B' c = isd_ (wd x h) p (c : Int)) (wd x h (290 + 81 * p + 2)).toNat (by omega) (fun m B hB => by
    refine ⟨B, ?_, hB⟩
    unfold f_X2_saidCards_4
    rw [e2, if_pos ((jI_le (by omega) (by omega) (by omega) (by omega)).mpr (by omega))]) (fun m n hn ih B hB => by
    have a1 := jI_s n
    have es := pk.2.2.2.2.1 n (by omega)
    have sb := p13 n (by omega)
    rw [f_X2_saidCards_4, e2, if_neg (fun q => absurd ((jI_le (by omega) (by omega) (by omega) (by omega)).mp q) (by omega)), if_pos (jI_b (by omega) (by omega) (by omega)), nat_ (by omega), es]
    by_cases c : wd x h (290 + 81 * p + 29 + n) = -1
    · rw [if_pos ((jm1 (by omega) (by omega)).mpr c)]
      unfold f_X2_saidCards_35
      rw [a1]
      refine ih _ (fun k hk => ?_)
      rw [bl_or, bl_0, Bool.or_false, hB k hk]
      show _ = (sd_ (wd x h) p (k : Int) n || decide (wd x h (290 + 81 * p + 29 + n) = (k : Int)))
      rw [c, decide_eq_false (by omega), Bool.or_false]
    · rw [if_neg (fun q => c ((jm1 (by omega) (by omega)).mp q)), if_pos (jI_b (by omega) (by omega) (by omega))]
      unfold f_X2_saidCards_35
      rw [a1]
      refine ih _ (fun k hk => ?_)
      obtain ⟨s, hs⟩ : ∃ s : Nat, wd x h (290 + 81 * p + 29 + n) = s := ⟨(wd x h (290 + 81 * p + 29 + n)).toNat, by omega⟩
      rw [hs, bl_or, bl_one (by omega) (by omega), hB k hk]
      conv => rhs; unfold sd_
      rw [hs]
      congr 1
      by_cases q : k = s
      · rw [decide_eq_true q, decide_eq_true (by omega)]
      · rw [decide_eq_false q, decide_eq_false (by omega)]) 0 (fun c hc => bl_0)
theorem c_bit {gh : Nat} {x : Nat} {K : XK} {h : XH} (I : Inv gh x K h) {p : Nat} (hp : (p : Int) < wd x h 1) {B : Int64} (hB : ∀ c : Nat, c < 52 → bl_ B c = isd_ (wd x h) p (c : Int)) {i : Nat} (hi : i ≤ 60) : (lg_cmp (x_lshr B (f_X2_cardAt (x + 13 + 6 + 3 * p) h (jI (i : Int))) &&& 1) 0 = 0) ↔ isd_ (wd x h) p (cd_ (wd x h) p i) = false := by
  have cb := cd_b (wd x h) p i
  rw [c_card I hp (by omega)]
  obtain ⟨s, hs⟩ : ∃ s : Nat, cd_ (wd x h) p (i : Int) = s := ⟨(cd_ (wd x h) p (i : Int)).toNat, by omega⟩
  rw [hs, lgc0, bl_at (by omega), hB s (by omega)]
  cases isd_ (wd x h) p (s : Int) <;> simp
theorem c_lackC {gh : Nat} {x : Nat} {K : XK} {h : XH} (I : Inv gh x K h) {p : Nat} (hp : (p : Int) < wd x h 1) : f_X2_lackCount (x + 13 + 6 + 3 * p) h = some (jI (lm_ (wd x h) p (wd x h (290 + 81 * p + 2)).toNat)) := by
  have pk := I.pk hp
  obtain ⟨-, -, -, -, -, -, p7, p8, -⟩ := I.wp hp
  have e2 := pk.2.2.1
  obtain ⟨B, b1, b2⟩ := c_said I hp
  unfold f_X2_lackCount
  rw [b1, Option.bind_some]
  refine x_up0 (P := fun m n => f_X2_lackCount_10 (x + 13 + 6 + 3 * p) h m B (jI (lm_ (wd x h) p n)) (jI (n : Int)) = some (jI (lm_ (wd x h) p (wd x h (290 + 81 * p + 2)).toNat))) (wd x h (290 + 81 * p + 2)).toNat (by omega) (fun m => by
    unfold f_X2_lackCount_10
    rw [e2, if_pos ((jI_le (by omega) (by omega) (by omega) (by omega)).mpr (by omega))]) (fun m n hn ih => by
    have a1 := jI_s n
    rw [f_X2_lackCount_10, e2, if_neg (fun q => absurd ((jI_le (by omega) (by omega) (by omega) (by omega)).mp q) (by omega)), xl_, a1]
    have cb := c_bit I hp b2 (i := n) (by omega)
    have e : lm_ (wd x h) p (n + 1) = lm_ (wd x h) p n + (if isd_ (wd x h) p (cd_ (wd x h) p n) = true then 0 else 1) := rfl
    rw [e] at ih
    by_cases c : isd_ (wd x h) p (cd_ (wd x h) p n) = true
    · rw [if_pos c, Int.add_zero] at ih
      rw [if_neg (fun q => by rw [cb.mp q] at c; exact absurd c (by decide))]
      rw [show jI (lm_ (wd x h) p n) + 0 = jI (lm_ (wd x h) p n) by rw [show (0 : Int32) = jI 0 from rfl, jI_add, Int.add_zero]]
      exact ih
    · rw [if_neg c] at ih
      rw [if_pos (cb.mpr (by simpa using c)), show (1 : Int32) = jI 1 from rfl, jI_add]
      exact ih)
theorem c_lackA {gh : Nat} {x : Nat} {K : XK} {h : XH} (I : Inv gh x K h) {p : Nat} (hp : (p : Int) < wd x h 1) {z : Int} (hz : 0 ≤ z ∧ z < 2147483648) : f_X2_lackAt (x + 13 + 6 + 3 * p) h (jI z) = some (jI (lo_ (wd x h) p z)) := by
  have pk := I.pk hp
  obtain ⟨-, -, -, -, -, -, p7, p8, -⟩ := I.wp hp
  have e2 := pk.2.2.1
  obtain ⟨B, b1, b2⟩ := c_said I hp
  unfold f_X2_lackAt
  rw [b1, Option.bind_some]
  have key := x_up0 (P := fun m n => ∀ l : Int, 0 ≤ l → l ≤ z → f_X2_lackAt_11 (x + 13 + 6 + 3 * p) h m (jI z) B (jI (z - l)) (jI (n : Int)) = some (jI (la_ (wd x h) p ((wd x h (290 + 81 * p + 2)).toNat - n) n l))) (wd x h (290 + 81 * p + 2)).toNat (by omega) (fun m l l0 l1 => by
    unfold f_X2_lackAt_11
    rw [e2, if_pos ((jI_le (by omega) (by omega) (by omega) (by omega)).mpr (by omega)), Nat.sub_self]
    rfl) (fun m n hn ih l l0 l1 => by
    have a1 := jI_s n
    have cb := c_bit I hp b2 (i := n) (by omega)
    rw [f_X2_lackAt_11, e2, if_neg (fun q => absurd ((jI_le (by omega) (by omega) (by omega) (by omega)).mp q) (by omega)), show (wd x h (290 + 81 * p + 2)).toNat - n = (wd x h (290 + 81 * p + 2)).toNat - (n + 1) + 1 by omega]
    unfold la_ f_X2_lackAt_51
    rw [a1]
    by_cases c : isd_ (wd x h) p (cd_ (wd x h) p n) = true
    · rw [if_pos c, if_neg (fun q => by rw [cb.mp q] at c; exact absurd c (by decide))]
      exact ih l l0 l1
    · rw [if_neg c, if_pos (cb.mpr (by simpa using c))]
      by_cases d : l = 0
      · rw [if_pos d, if_pos ((jI_eq (by omega) (by omega) (by omega) (by omega)).mpr (by omega)), c_card I hp (by omega)]
      · rw [if_neg d, if_neg (fun q => absurd ((jI_eq (by omega) (by omega) (by omega) (by omega)).mp q) (by omega))]
        have k := ih (l - 1) (by omega) (by omega)
        rw [show z - (l - 1) = z - l + 1 by omega] at k
        rw [show (1 : Int32) = jI 1 from rfl, jI_add]
        exact k)
  have k := key z hz.1 (by omega)
  rw [Int.sub_self] at k
  exact k
theorem r_isd {gh : Nat} {x : Nat} {K : XK} {h : XH} (I : Inv gh x K h) {p : Nat} (hp : (p : Int) < wd x h 1) {c : Int} (hc : 0 ≤ c ∧ c < 52) : f_X12_isSaid x h (jI p) (jI c) = some (if isd_ (wd x h) p c = true then 1 else 0) := by
  have w1 := I.w1
  obtain ⟨-, -, -, -, -, -, p7, p8, -, -, -, -, p13, -⟩ := I.wp hp
  have o2 : f_X12_of x h (jI p) 2 = some (jI (wd x h (290 + 81 * p + 2))) := of_2 (by omega)
  unfold f_X12_isSaid
  refine x_up0 (P := fun m n => f_X12_isSaid_5 x h m (jI p) (jI c) (if sd_ (wd x h) p c n = true then 1 else 0) (jI (n : Int)) = some (if isd_ (wd x h) p c = true then 1 else 0)) (wd x h (290 + 81 * p + 2)).toNat (by omega) (fun m => by
    unfold f_X12_isSaid_5
    rw [o2, Option.bind_some, if_pos ((jI_le (by omega) (by omega) (by omega) (by omega)).mpr (by omega))]
    show (if x_isb (if isd_ (wd x h) p c = true then 1 else 0) = true then some (if isd_ (wd x h) p c = true then (1 : Int32) else 0) else none) = _
    cases isd_ (wd x h) p c <;> rfl) (fun m n hn ih => by
    have a1 := jI_s n
    have os := of_s (x := x) (h := h) (p := p) (i := n) (by omega) (by omega)
    have sb := p13 n (by omega)
    rw [f_X12_isSaid_5, o2, Option.bind_some, if_neg (fun q => absurd ((jI_le (by omega) (by omega) (by omega) (by omega)).mp q) (by omega))]
    unfold f_X12_isSaid_34 f_X12_isSaid_39
    rw [a1, show (29 : Int32) = jI 29 from rfl, jI_add, os, Option.bind_some, xl_]
    conv at ih => lhs; unfold sd_
    by_cases d : sd_ (wd x h) p c n = true
    · rw [if_pos d, if_neg (show ¬ (1 : Int32) = 0 by decide)]
      rw [d, Bool.true_or, if_pos rfl] at ih
      exact ih
    · rw [if_neg d, if_pos rfl]
      rw [show sd_ (wd x h) p c n = false by simpa using d, Bool.false_or] at ih
      by_cases q : wd x h (290 + 81 * p + 29 + n) = c
      · rw [decide_eq_true q, if_pos rfl] at ih
        rw [if_pos (by rw [q])]
        exact ih
      · rw [decide_eq_false q, if_neg (by decide)] at ih
        rw [if_neg (fun e => q ((jI_eq (by omega) (by omega) (by omega) (by omega)).mp e))]
        exact ih)
theorem r_lackM {gh : Nat} {x : Nat} {K : XK} {h : XH} (I : Inv gh x K h) {p : Nat} (hp : (p : Int) < wd x h 1) : f_X12_lackMany x h (jI p) = some (jI (lm_ (wd x h) p (wd x h (290 + 81 * p + 2)).toNat)) := by
  have w1 := I.w1
  obtain ⟨-, -, -, -, -, -, p7, p8, -⟩ := I.wp hp
  have o2 : f_X12_of x h (jI p) 2 = some (jI (wd x h (290 + 81 * p + 2))) := of_2 (by omega)
  unfold f_X12_lackMany
  refine x_up0 (P := fun m n => f_X12_lackMany_4 x h m (jI p) (jI (lm_ (wd x h) p n)) (jI (n : Int)) = some (jI (lm_ (wd x h) p (wd x h (290 + 81 * p + 2)).toNat))) (wd x h (290 + 81 * p + 2)).toNat (by omega) (fun m => by
    unfold f_X12_lackMany_4
    rw [o2, Option.bind_some, if_pos ((jI_le (by omega) (by omega) (by omega) (by omega)).mpr (by omega))]) (fun m n hn ih => by
    have a1 := jI_s n
    have e : lm_ (wd x h) p (n + 1) = lm_ (wd x h) p n + (if isd_ (wd x h) p (cd_ (wd x h) p n) = true then 0 else 1) := rfl
    rw [e] at ih
    rw [f_X12_lackMany_4, o2, Option.bind_some, if_neg (fun q => absurd ((jI_le (by omega) (by omega) (by omega) (by omega)).mp q) (by omega)), r_card I hp (by omega), Option.bind_some, r_isd I hp (cd_b _ _ _), Option.bind_some, xl_, a1]
    by_cases c : isd_ (wd x h) p (cd_ (wd x h) p n) = true
    · rw [if_pos c, Int.add_zero] at ih
      rw [if_pos c, if_neg (show ¬ (1 : Int32) = 0 by decide), show jI (lm_ (wd x h) p n) + 0 = jI (lm_ (wd x h) p n) by rw [show (0 : Int32) = jI 0 from rfl, jI_add, Int.add_zero]]
      exact ih
    · rw [if_neg c] at ih
      rw [if_neg c, if_pos rfl, show (1 : Int32) = jI 1 from rfl, jI_add]
      exact ih)
theorem r_lackO {gh : Nat} {x : Nat} {K : XK} {h : XH} (I : Inv gh x K h) {p : Nat} (hp : (p : Int) < wd x h 1) {z : Int} (hz : 0 ≤ z ∧ z < 2147483648) : f_X12_lackOf x h (jI p) (jI z) = some (jI (lo_ (wd x h) p z)) := by
  have w1 := I.w1
  obtain ⟨-, -, -, -, -, -, p7, p8, -⟩ := I.wp hp
  have o2 : f_X12_of x h (jI p) 2 = some (jI (wd x h (290 + 81 * p + 2))) := of_2 (by omega)
  unfold f_X12_lackOf
  have key := x_up0 (P := fun m n => ∀ l : Int, 0 ≤ l → l ≤ z → f_X12_lackOf_5 x h m (jI p) (jI l) (jI (n : Int)) = some (jI (la_ (wd x h) p ((wd x h (290 + 81 * p + 2)).toNat - n) n l))) (wd x h (290 + 81 * p + 2)).toNat (by omega) (fun m l l0 l1 => by
    unfold f_X12_lackOf_5
    rw [o2, Option.bind_some, if_pos ((jI_le (by omega) (by omega) (by omega) (by omega)).mpr (by omega)), Nat.sub_self]
    rfl) (fun m n hn ih l l0 l1 => by
    have a1 := jI_s n
    rw [f_X12_lackOf_5, o2, Option.bind_some, if_neg (fun q => absurd ((jI_le (by omega) (by omega) (by omega) (by omega)).mp q) (by omega)), r_card I hp (by omega), Option.bind_some, r_isd I hp (cd_b _ _ _), Option.bind_some, Option.bind_some, show (wd x h (290 + 81 * p + 2)).toNat - n = (wd x h (290 + 81 * p + 2)).toNat - (n + 1) + 1 by omega]
    unfold la_ f_X12_lackOf_49
    rw [a1]
    by_cases c : isd_ (wd x h) p (cd_ (wd x h) p n) = true
    · rw [if_pos c, if_pos c, if_neg (show ¬ (1 : Int32) = 0 by decide)]
      exact ih l l0 l1
    · rw [if_neg c, if_neg c, if_pos rfl]
      by_cases d : l = 0
      · rw [if_pos d, d, if_pos (show jI 0 = (0 : Int32) from rfl)]
      · rw [if_neg d, if_neg (j_ne0 d (by omega) (by omega)), m1_, jI_add]
        exact ih (l - 1) (by omega) (by omega))
  exact key z hz.1 (by omega)
theorem P_row23 {gh : Nat} {x : Nat} {K : XK} {h : XH} (I : Inv gh x K h) (a1 a2 : Int32) : ∃ h', f_row23 x h a1 a2 = some h' ∧ Inv gh x K h' := by
  obtain ⟨z1, z1a, z1b, rfl⟩ := jI_ex a1
  obtain ⟨z2, z2a, z2b, rfl⟩ := jI_ex a2
  have e0 : ∀ b1 b2, f_row23 x h b1 b2 = rc_ x (x_lb (f_X11_lacks x h b1 b2) [0, 2, 1] (fun v h => x_l h (x + 76) (0 : Int32).toNatClampNeg v.toInt64)) (fun h => f_X12_lacks x h b1 b2) := fun _ _ => rfl
  rw [e0]
  have w1 := I.w1
  have g1 : (-1 : Int32) ≤ jI z2 ↔ -1 ≤ z2 := by
    rw [m1_]
    exact jI_le (by omega) (by omega) z2a z2b
  have g2 := jge0 z2a z2b
  have g3 := jm1 z2a z2b
  by_cases cP : 0 ≤ z1 ∧ z1 < wd x h 1
  · obtain ⟨p, rfl⟩ : ∃ p : Nat, z1 = p := ⟨z1.toNat, by omega⟩
    by_cases cQ : 0 < wd x h (290 + 81 * p + 3)
    · by_cases c : -1 ≤ z2
      · refine rc_q I (res := .inr (jI (if z2 = -1 then lm_ (wd x h) p (wd x h (290 + 81 * p + 2)).toNat else lo_ (wd x h) p z2))) ⟨h, ?_, Fr.rf⟩ (fun H J eH => ?_)
        · unfold f_X11_lacks
          rw [ckT_y I cP.2 cQ, xb_v, if_pos (g1.mpr c), if_pos (jI_b (by omega) (by omega) (by omega)), nat_ (by omega)]
          by_cases d : z2 = -1
          · rw [if_pos (g3.mpr d), c_lackC I cP.2, Option.bind_some, if_pos d]
          · rw [if_neg (fun q => d (g3.mp q)), c_lackA I cP.2 (by omega), Option.bind_some, if_neg d]
        · have ew : wd x (x_i H (x + 64) 0 (jI 0)) = wd x h := by rw [wm0, eH]
          have J0 := J.m0
          have e1 := ckP_ry J0 (z := (p : Int)) (by rw [ew]; exact cP)
          have e2 := r_isp J0 (p := p) (by rw [ew]; exact cP.2)
          have e3 := r_lackM J0 (p := p) (by rw [ew]; exact cP.2)
          rw [ew] at e2 e3
          rw [if_pos cQ] at e2
          refine ⟨_, x_i H (x + 64) 0 (jI 0), ?_, fr_0, rfl, gi_s, rfl⟩
          unfold f_X12_lacks
          rw [xl_, show x_i H (x + 64) 0 (0 : Int32) = x_i H (x + 64) 0 (jI 0) from rfl, e1, Option.bind_some, tvz, Option.bind_some, if_pos (show jI 0 = (0 : Int32) from rfl), e2, Option.bind_some, if_neg (show ¬ jI 1 = (0 : Int32) by decide), show f_X12_throwsIf x (x_i H (x + 64) 0 (jI 0)) 0 2 = _ from tvz, Option.bind_some, if_pos (show jI 0 = (0 : Int32) from rfl), if_pos (g1.mpr c), show f_X12_throwsIf x (x_i H (x + 64) 0 (jI 0)) 0 3 = _ from tvz, Option.bind_some, if_pos (show jI 0 = (0 : Int32) from rfl)]
          by_cases d : z2 = -1
          · rw [if_neg (fun q => absurd (g2.mp q) (by omega)), e3, Option.bind_some, if_pos d]
          · have e4 := r_lackO J0 (p := p) (by rw [ew]; exact cP.2) (z := z2) (by omega)
            rw [ew] at e4
            rw [if_pos (g2.mpr (by omega)), e4, Option.bind_some, if_neg d]
      · refine rc_q I (res := .inl 1) ⟨h, ?_, Fr.rf⟩ (fun H J eH => ⟨jI 0, x_i (x_i H (x + 64) 0 (jI 0)) (x + 64) 0 (jI 3), ?_, fr_t, rfl, 2, rfl, by decide, gi_s⟩)
        · unfold f_X11_lacks
          rw [ckT_y I cP.2 cQ, xb_v, if_neg (fun q => c (g1.mp q))]
        · have ew : wd x (x_i H (x + 64) 0 (jI 0)) = wd x h := by rw [wm0, eH]
          have J0 := J.m0
          have e1 := ckP_ry J0 (z := (p : Int)) (by rw [ew]; exact cP)
          have e2 := r_isp J0 (p := p) (by rw [ew]; exact cP.2)
          rw [ew] at e2
          rw [if_pos cQ] at e2
          unfold f_X12_lacks
          rw [xl_, show x_i H (x + 64) 0 (0 : Int32) = x_i H (x + 64) 0 (jI 0) from rfl, e1, Option.bind_some, tvz, Option.bind_some, if_pos (show jI 0 = (0 : Int32) from rfl), e2, Option.bind_some, if_neg (show ¬ jI 1 = (0 : Int32) by decide), show f_X12_throwsIf x (x_i H (x + 64) 0 (jI 0)) 0 2 = _ from tvz, Option.bind_some, if_pos (show jI 0 = (0 : Int32) from rfl), if_neg (fun q => c (g1.mp q)), show f_X12_throwsIf x (x_i H (x + 64) 0 (jI 0)) 1 3 = _ from tvo, Option.bind_some, if_neg (show ¬ jI 1 = (0 : Int32) by decide)]
          rfl
    · refine rc_q I (res := .inl 2) ⟨h, ?_, Fr.rf⟩ (fun H J eH => ⟨jI 0, x_i (x_i H (x + 64) 0 (jI 0)) (x + 64) 0 (jI 2), ?_, fr_t, rfl, 1, rfl, by decide, gi_s⟩)
      · unfold f_X11_lacks
        rw [ckT_n I cP.2 cQ, xb_e]
      · have ew : wd x (x_i H (x + 64) 0 (jI 0)) = wd x h := by rw [wm0, eH]
        have J0 := J.m0
        have e1 := ckP_ry J0 (z := (p : Int)) (by rw [ew]; exact cP)
        have e2 := r_isp J0 (p := p) (by rw [ew]; exact cP.2)
        rw [ew] at e2
        rw [if_neg cQ] at e2
        unfold f_X12_lacks
        rw [xl_, show x_i H (x + 64) 0 (0 : Int32) = x_i H (x + 64) 0 (jI 0) from rfl, e1, Option.bind_some, tvz, Option.bind_some, if_pos (show jI 0 = (0 : Int32) from rfl), e2, Option.bind_some, if_pos (show jI 0 = (0 : Int32) from rfl), show f_X12_throwsIf x (x_i H (x + 64) 0 (jI 0)) 1 2 = _ from tvo, Option.bind_some, if_neg (show ¬ jI 1 = (0 : Int32) by decide)]
        rfl
  · refine rc_q I (res := .inl 0) ⟨h, ?_, Fr.rf⟩ (fun H J eH => ⟨jI 0, x_i (x_i H (x + 64) 0 (jI 0)) (x + 64) 0 (jI 1), ?_, fr_t, rfl, 0, rfl, by decide, gi_s⟩)
    · unfold f_X11_lacks
      rw [ckT_e I ⟨z1a, z1b⟩ cP, xb_e]
    · have ew : wd x (x_i H (x + 64) 0 (jI 0)) = wd x h := by rw [wm0, eH]
      have e1 := ckP_rn J.m0 (z := z1) ⟨z1a, z1b⟩ (by rw [ew]; exact cP)
      unfold f_X12_lacks
      rw [xl_, show x_i H (x + 64) 0 (0 : Int32) = x_i H (x + 64) 0 (jI 0) from rfl, e1, Option.bind_some, tvo, Option.bind_some, if_neg (show ¬ jI 1 = (0 : Int32) by decide)]
      rfl
