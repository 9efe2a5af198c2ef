theorem jI_s (n : Nat) : jI (n : Int) + 1 = jI ((n + 1 : Nat) : Int) := by
  rw [show (1 : Int32) = jI 1 from rfl, jI_add]
  rfl
/-! ===== rates: how many, least, greatest, edges ===== -/
def rn_ (B : Nat → Bool) : Nat → Int
  | 0 => 0
  | r + 1 => if B r = true then rn_ B r + 1 else rn_ B r
def rl_ (B : Nat → Bool) : Nat → Int
  | 0 => -1
  | r + 1 => if B r = true then (if rn_ B r = 0 then (r : Int) else rl_ B r) else rl_ B r
def rh_ (B : Nat → Bool) : Nat → Int
  | 0 => -1
  | r + 1 => if B r = true then (r : Int) else rh_ B r
def ro_ (B : Nat → Bool) (N : Nat → Int32) (mm : Int32 → Int32 → Int32) (W : Int) : Nat → Int32
  | 0 => -1
  | r + 1 => if B r = true then (if W ≤ 0 then ro_ B N mm W r else if rn_ B r = 0 then N r else mm (ro_ B N mm W r) (N r)) else ro_ B N mm W r
def ed_ (B : Nat → Bool) (N : Nat → Int32) (mm : Int32 → Int32 → Int32) (l : Nat) : Nat → Int32
  | 0 => N l
  | k + 1 => if B (l + 1 + k) = true then mm (ed_ B N mm l k) (N (l + 1 + k)) else ed_ B N mm l k
theorem rn_b {B : Nat → Bool} : ∀ r : Nat, 0 ≤ rn_ B r ∧ rn_ B r ≤ r ∧ -1 ≤ rl_ B r ∧ rl_ B r < r ∧ -1 ≤ rh_ B r ∧ rh_ B r < r := by
  intro r
  induction r with
  | zero => simp [rn_, rl_, rh_]
  | succ r ih =>
    obtain ⟨i1, i2, i3, i4, i5, i6⟩ := ih
    unfold rn_ rl_ rh_
    split
    · refine ⟨by omega, by omega, ?_, ?_, by omega, by omega⟩ <;> split <;> omega
    · exact ⟨by omega, by omega, by omega, by omega, by omega, by omega⟩
theorem ro_e {B : Nat → Bool} {N : Nat → Int32} {mm : Int32 → Int32 → Int32} {W : Int} (hW : 0 < W) : ∀ r : Nat, (rn_ B r = 0 ∧ ro_ B N mm W r = -1) ∨ (0 < rn_ B r ∧ ∃ l g : Nat, rl_ B r = l ∧ rh_ B r = g ∧ l ≤ g ∧ g < r ∧ ro_ B N mm W r = ed_ B N mm l (r - l - 1) ∧ ed_ B N mm l (r - l - 1) = ed_ B N mm l (g - l)) := by
  intro r
  induction r with
  | zero => exact Or.inl ⟨rfl, rfl⟩
  | succ r ih =>
    unfold rn_ ro_ rl_ rh_
    have b := rn_b (B := B) r
    by_cases c : B r = true
    · rw [if_pos c, if_pos c, if_neg (by omega), if_pos c, if_pos c]
      refine Or.inr ⟨by omega, ?_⟩
      rcases ih with ⟨i1, i2⟩ | ⟨i1, l, g, i3, i4, i5, i6, i7, i8⟩
      · refine ⟨r, r, by rw [if_pos i1], rfl, by omega, by omega, ?_, by rw [show r + 1 - r - 1 = r - r by omega]⟩
        rw [if_pos i1, show r + 1 - r - 1 = 0 by omega]
        rfl
      · refine ⟨l, r, by rw [if_neg (by omega)]; exact i3, rfl, by omega, by omega, ?_, by rw [show r + 1 - l - 1 = r - l by omega]⟩
        rw [if_neg (by omega), i7, show r + 1 - l - 1 = (r - l - 1) + 1 by omega]
        show _ = if B (l + 1 + (r - l - 1)) = true then mm (ed_ B N mm l (r - l - 1)) (N (l + 1 + (r - l - 1))) else ed_ B N mm l (r - l - 1)
        rw [show l + 1 + (r - l - 1) = r by omega, if_pos c]
    · rw [if_neg c, if_neg c, if_neg c, if_neg c]
      rcases ih with ⟨i1, i2⟩ | ⟨i1, l, g, i3, i4, i5, i6, i7, i8⟩
      · exact Or.inl ⟨i1, i2⟩
      · have e : ed_ B N mm l (r + 1 - l - 1) = ed_ B N mm l (r - l - 1) := by
          rw [show r + 1 - l - 1 = (r - l - 1) + 1 by omega]
          conv => lhs; unfold ed_
          rw [show l + 1 + (r - l - 1) = r by omega, if_neg c]
        exact Or.inr ⟨i1, l, g, i3, i4, i5, by omega, by rw [e]; exact i7, by rw [e]; exact i8⟩
theorem ro_0 {B : Nat → Bool} {N : Nat → Int32} {mm : Int32 → Int32 → Int32} {W : Int} (hW : W ≤ 0) : ∀ r : Nat, ro_ B N mm W r = -1 := by
  intro r
  induction r with
  | zero => rfl
  | succ r ih =>
    unfold ro_
    rw [if_pos hW, ih, ite_self]
def mn_ (a b : Int32) : Int32 := if b < a then b else a
def mx_ (a b : Int32) : Int32 := if a < b then b else a
def rB_ (w : Nat → Int) (g : Int32) (r : Nat) : Bool := ia_ w g (jI r) ((w 5).toNat - 1) 1
def rN_ (w : Nat → Int) (g : Int32) (r : Nat) : Int32 := wa_ (jI (w (943 + (w 5).toNat))) g (jI r)
def rv_ (w : Nat → Int) (g : Int32) (z : Int) : Int32 := if z = 0 then jI (rn_ (rB_ w g) 101) else if z = 1 then jI (rl_ (rB_ w g) 101) else if z = 2 then jI (rh_ (rB_ w g) 101) else if z = 3 then ro_ (rB_ w g) (rN_ w g) mn_ (w 5) 101 else ro_ (rB_ w g) (rN_ w g) mx_ (w 5) 101
theorem c_isr2 {gh : Nat} {x : Nat} {K : XK} {h : XH} (I : Inv gh x K h) {g : Int32} {r : Nat} : f_X11_isRate x h (jI (r : Int)) g = some (if rB_ (wd x h) g r = true then 1 else 0) := c_isr I
theorem c_edge {gh : Nat} {x : Nat} {K : XK} {h : XH} (I : Inv gh x K h) (h5 : 0 < wd x h 5) {g v2 : Int32} {l e : Nat} (hl : l ≤ e) (he : e ≤ 100) : f_X11_nextWeekEdge x h g v2 (jI l) (jI e) = some (ed_ (rB_ (wd x h) g) (rN_ (wd x h) g) (if v2 = 0 then mx_ else mn_) l (e - l)) := by
  have w5 := I.w5
  have e15 : h.1 (x + 9) 15 = jI (wd x h 5) := I.2.1.1.2.2.2.2.2.2.2
  have k0 := I.wk (k := (wd x h 5).toNat - 1) (by omega)
  unfold f_X11_nextWeekEdge
  rw [e15, show (1 : Int32) = jI 1 from rfl, jI_sub, if_pos (jI_b (by omega) (by omega) (by omega)), jI_nat (by omega) (by omega), show (wd x h 5 - 1).toNat = (wd x h 5).toNat - 1 by omega, k0, xl_, c_wa, Option.bind_some, jI_add, show 944 + ((wd x h 5).toNat - 1) = 943 + (wd x h 5).toNat by omega]
  refine x_up0 (P := fun m n => f_X11_nextWeekEdge_33 x h m g v2 (jI e) (jI (wd x h (943 + (wd x h 5).toNat))) (ed_ (rB_ (wd x h) g) (rN_ (wd x h) g) (if v2 = 0 then mx_ else mn_) l n) (jI ((l : Int) + 1 + n)) = some (ed_ (rB_ (wd x h) g) (rN_ (wd x h) g) (if v2 = 0 then mx_ else mn_) l (e - l))) (e - l) (by omega) (fun m => by
    unfold f_X11_nextWeekEdge_33
    rw [if_pos ((jI_lt (by omega) (by omega) (by omega) (by omega)).mpr (by omega))]) (fun m n hn ih => by
    have i1 := c_isr2 I (g := g) (r := l + 1 + n)
    rw [show ((l + 1 + n : Nat) : Int) = (l : Int) + 1 + n by omega] at i1
    have a1 : jI ((l : Int) + 1 + n) + 1 = jI ((l : Int) + 1 + (n + 1 : Nat)) := by
      rw [show (1 : Int32) = jI 1 from rfl, jI_add]
      rfl
    have nx : wa_ (jI (wd x h (943 + (wd x h 5).toNat))) g (jI ((l : Int) + 1 + n)) = rN_ (wd x h) g (l + 1 + n) := rfl
    rw [f_X11_nextWeekEdge_33, if_neg (fun q => absurd ((jI_lt (by omega) (by omega) (by omega) (by omega)).mp q) (by omega)), i1, Option.bind_some, c_wa, Option.bind_some, nx]
    unfold f_X11_nextWeekEdge_83
    rw [a1]
    conv at ih => lhs; unfold ed_
    by_cases c : rB_ (wd x h) g (l + 1 + n) = true
    · rw [if_pos c] at ih
      rw [if_pos c, if_neg (show ¬ (1 : Int32) = 0 by decide), xl_]
      by_cases d : v2 = 0
      · rw [if_pos d] at ih
        rw [if_pos d, if_pos d]
        exact ih
      · rw [if_neg d] at ih
        rw [if_neg d, if_neg d]
        exact ih
    · rw [if_neg c] at ih
      rw [if_neg c, if_pos rfl]
      exact ih)
theorem c_r53 {gh : Nat} {x : Nat} {K : XK} {h : XH} (I : Inv gh x K h) {g : Int32} {z : Int} (hz : 0 ≤ z ∧ z ≤ 4) : f_X11_rates_53 x x_FU h g (jI z) 0 (-1) (-1) 0 = some (.inr (rv_ (wd x h) g z), h) := by
  have w5 := I.w5
  have e15 : h.1 (x + 9) 15 = jI (wd x h 5) := I.2.1.1.2.2.2.2.2.2.2
  refine x_up0 (P := fun m n => f_X11_rates_53 x m h g (jI z) (jI (rn_ (rB_ (wd x h) g) n)) (jI (rl_ (rB_ (wd x h) g) n)) (jI (rh_ (rB_ (wd x h) g) n)) (jI n) = some (.inr (rv_ (wd x h) g z), h)) 101 (by omega) (fun m => by
    have b := rn_b (B := rB_ (wd x h) g) 101
    have z0 : jI z = (0 : Int32) ↔ z = 0 := jI_eq (b := 0) (by omega) (by omega) (by omega) (by omega)
    have z1 : jI z = (1 : Int32) ↔ z = 1 := jI_eq (b := 1) (by omega) (by omega) (by omega) (by omega)
    have z3 : jI z = (3 : Int32) ↔ z = 3 := jI_eq (b := 3) (by omega) (by omega) (by omega) (by omega)
    have z2 : (2 : Int32) < jI z ↔ 2 < z := jI_lt (a := 2) (by omega) (by omega) (by omega) (by omega)
    have n0 : jI (rn_ (rB_ (wd x h) g) 101) = (0 : Int32) ↔ rn_ (rB_ (wd x h) g) 101 = 0 := jI_eq (b := 0) (by omega) (by omega) (by omega) (by omega)
    unfold f_X11_rates_53
    rw [if_pos (show (100 : Int32) < jI ((101 : Nat) : Int) by decide), e15]
    simp only [z0, z1, z2, z3, n0]
    unfold rv_
    by_cases c0 : z = 0
    · rw [if_pos c0, if_pos c0]
    · rw [if_neg c0, if_neg c0]
      by_cases c2 : 2 < z
      · rw [if_pos c2, if_neg (show ¬ z = 1 by omega), if_neg (show ¬ z = 2 by omega)]
        by_cases cw : 0 < wd x h 5
        · have w1 : (1 : Int32) ≤ jI (wd x h 5) := (jI_le (a := 1) (by omega) (by omega) (by omega) (by omega)).mpr (by omega)
          by_cases c3 : z = 3
          · rw [if_pos c3, if_pos c3, if_pos w1]
            rcases ro_e (B := rB_ (wd x h) g) (N := rN_ (wd x h) g) (mm := mn_) cw 101 with ⟨i1, i2⟩ | ⟨i1, l, e, i3, i4, i5, i6, i7, i8⟩
            · rw [if_pos i1, i2]
              rfl
            · rw [if_neg (show ¬ rn_ (rB_ (wd x h) g) 101 = 0 by omega), i3, i4, c_edge I cw i5 (by omega), Option.bind_some, i7, i8, if_neg (show ¬ (1 : Int32) = 0 by decide)]
          · rw [if_neg c3, if_neg c3, if_pos w1]
            rcases ro_e (B := rB_ (wd x h) g) (N := rN_ (wd x h) g) (mm := mx_) cw 101 with ⟨i1, i2⟩ | ⟨i1, l, e, i3, i4, i5, i6, i7, i8⟩
            · rw [if_pos i1, i2]
              rfl
            · rw [if_neg (show ¬ rn_ (rB_ (wd x h) g) 101 = 0 by omega), i3, i4, c_edge I cw i5 (by omega), Option.bind_some, i7, i8, if_pos (show (0 : Int32) = 0 from rfl)]
        · have w1 : ¬ (1 : Int32) ≤ jI (wd x h 5) := fun q => absurd ((jI_le (a := 1) (by omega) (by omega) (by omega) (by omega)).mp q) (by omega)
          rw [if_neg w1, ro_0 (by omega), ro_0 (by omega), ite_self, ite_self]
          rfl
      · rw [if_neg c2]
        by_cases c1 : z = 1
        · rw [if_pos c1, if_pos c1]
        · rw [if_neg c1, if_neg c1, if_pos (show z = 2 by omega)]) (fun m n hn ih => by
    have b := rn_b (B := rB_ (wd x h) g) n
    have a1 : jI (n : Int) + 1 = jI ((n + 1 : Nat) : Int) := by
      rw [show (1 : Int32) = jI 1 from rfl, jI_add]
      rfl
    have n0 : jI (rn_ (rB_ (wd x h) g) n) = (0 : Int32) ↔ rn_ (rB_ (wd x h) g) n = 0 := jI_eq (b := 0) (by omega) (by omega) (by omega) (by omega)
    rw [f_X11_rates_53, if_neg (show ¬ (100 : Int32) < jI (n : Int) from fun q => absurd ((jI_lt (a := 100) (by omega) (by omega) (by omega) (by omega)).mp q) (by omega)), c_isr2 I, Option.bind_some, a1]
    conv at ih => lhs; unfold rn_ rl_ rh_
    by_cases c : rB_ (wd x h) g n = true
    · rw [if_pos c, if_pos c, if_pos c] at ih
      rw [if_pos c, if_neg (show ¬ (1 : Int32) = 0 by decide), if_neg (show ¬ (1 : Int32) = 0 by decide), if_neg (show ¬ (1 : Int32) = 0 by decide)]
      simp only [n0]
      rw [ji_, show (1 : Int32) = jI 1 from rfl, jI_add]
      exact ih
    · rw [if_neg c, if_neg c, if_neg c] at ih
      rw [if_neg c, if_pos rfl, if_pos rfl, if_pos rfl]
      exact ih)
theorem r_r91 {x : Nat} {h : XH} {k78 : XH → Int32 → Int32 → Int32 → Int32 → Int32 → Int32 → Int32 → Int32 → Int32 → Option (Int32 × XH)} {g v2 v4 v5 v6 v7 v8 : Int32} {r : Nat} (w5 : 0 ≤ wd x h 5 ∧ wd x h 5 ≤ 20) :
    f_X12_rates_91 k78 x x_FU h g v2 (jI (wd x h 5)) v4 v5 v6 v7 v8 (jI r) 1 1 = if rB_ (wd x h) g r = true then k78 h g v2 (jI (wd x h 5)) (v4 + 1) (if v4 = 0 then jI r else v5) (jI r) (if wd x h 5 ≤ 0 then v7 else if v4 = 0 then rN_ (wd x h) g r else mn_ v7 (rN_ (wd x h) g r)) (if wd x h 5 ≤ 0 then v8 else if v4 = 0 then rN_ (wd x h) g r else mx_ v8 (rN_ (wd x h) g r)) (jI r + 1) else k78 h g v2 (jI (wd x h 5)) v4 v5 v6 v7 v8 (jI r + 1) := by
  have key := x_up0 (P := fun m n => ∀ t : Bool, f_X12_rates_91 k78 x m h g v2 (jI (wd x h 5)) v4 v5 v6 v7 v8 (jI r) (if t = true then 1 else 0) (jI ((n : Int) + 1)) = if (t && ia_ (wd x h) g (jI r) ((wd x h 5).toNat - 1 - n) (n + 1)) = true then k78 h g v2 (jI (wd x h 5)) (v4 + 1) (if v4 = 0 then jI r else v5) (jI r) (if wd x h 5 ≤ 0 then v7 else if v4 = 0 then rN_ (wd x h) g r else mn_ v7 (rN_ (wd x h) g r)) (if wd x h 5 ≤ 0 then v8 else if v4 = 0 then rN_ (wd x h) g r else mx_ v8 (rN_ (wd x h) g r)) (jI r + 1) else k78 h g v2 (jI (wd x h 5)) v4 v5 v6 v7 v8 (jI r + 1)) ((wd x h 5).toNat - 1) (by omega) (fun m t => by
    unfold f_X12_rates_91
    rw [if_pos ((jI_le (by omega) (by omega) (by omega) (by omega)).mpr (by omega)), Nat.sub_self]
    cases t with
    | false =>
      rw [if_neg (show ¬ false = true by decide), if_pos rfl, Bool.false_and, if_neg (show ¬ false = true by decide)]
      rfl
    | true =>
      rw [if_pos rfl, if_neg (show ¬ (1 : Int32) = 0 by decide), Bool.true_and, if_pos (show ia_ (wd x h) g (jI r) 0 ((wd x h 5).toNat - 1 + 1) = true from rfl), xl_]
      by_cases c : wd x h 5 ≤ 0
      · rw [if_pos (show jI (wd x h 5) ≤ (0 : Int32) from (jI_le (b := 0) (by omega) (by omega) (by omega) (by omega)).mpr c), if_pos c, if_pos c]
        rfl
      · rw [if_neg (show ¬ jI (wd x h 5) ≤ (0 : Int32) from fun q => c ((jI_le (b := 0) (by omega) (by omega) (by omega) (by omega)).mp q)), if_neg c, if_neg c, show (944 : Int32) = jI 944 from rfl, show (1 : Int32) = jI 1 from rfl, jI_add, jI_sub, if_pos (jI_b (by omega) (by omega) (by omega)), jI_nat (by omega) (by omega), show (944 + wd x h 5 - 1).toNat = 943 + (wd x h 5).toNat by omega, wd_j, r_wa, Option.bind_some]
        rfl) (fun m n hn ih t => by
    have a1 : jI ((n : Int) + 1) + 1 = jI (((n + 1 : Nat) : Int) + 1) := by
      rw [show (1 : Int32) = jI 1 from rfl, jI_add]
      rfl
    rw [f_X12_rates_91, if_neg (fun q => absurd ((jI_le (by omega) (by omega) (by omega) (by omega)).mp q) (by omega)), show (wd x h 5).toNat - 1 - n = (wd x h 5).toNat - 1 - (n + 1) + 1 by omega]
    conv => rhs; unfold ia_
    cases t with
    | false =>
      rw [if_neg (show ¬ false = true by decide), if_pos rfl]
      unfold f_X12_rates_144 f_X12_rates_145
      rw [a1]
      exact ih false
    | true =>
      rw [if_pos rfl, if_neg (show ¬ (1 : Int32) = 0 by decide), a1, show (944 : Int32) = jI 944 from rfl, show (1 : Int32) = jI 1 from rfl, jI_add, jI_sub, if_pos (jI_b (by omega) (by omega) (by omega)), jI_nat (by omega) (by omega), show (944 + ((n : Int) + 1) - 1).toNat = 944 + n by omega, wd_j, r_wa, Option.bind_some, if_pos (jI_b (by omega) (by omega) (by omega)), jI_nat (by omega) (by omega), show (944 + ((n : Int) + 1)).toNat = 944 + (n + 1) by omega, wd_j, xl_, Bool.true_and]
      have eo : (jI 1 < f_J9_abs_0f7a4 h (wa_ (jI (wd x h (944 + n))) g (jI r) - jI (wd x h (944 + (n + 1))))) ↔ ¬ ok_ (wd x h) g (jI r) (n + 1) = true := by
        unfold ok_
        rw [decide_eq_true_iff, show 943 + (n + 1) = 944 + n by omega]
        exact (Int32.not_le).symm
      have k := ih (ok_ (wd x h) g (jI r) (n + 1))
      by_cases c : ok_ (wd x h) g (jI r) (n + 1) = true
      · rw [if_neg (fun q => eo.mp q c)]
        rw [if_pos c] at k
        exact k
      · rw [if_pos (eo.mpr c)]
        rw [if_neg c] at k
        exact k)
  exact key true
theorem r_r78 {x : Nat} {h : XH} {g : Int32} {z : Int} (w5 : 0 ≤ wd x h 5 ∧ wd x h 5 ≤ 20) (hz : 0 ≤ z ∧ z ≤ 4) : f_X12_rates_78 x x_FU h g (jI z) (jI (wd x h 5)) 0 (-1) (-1) (-1) (-1) 0 = some (rv_ (wd x h) g z, h) := by
  refine x_up0 (P := fun m n => f_X12_rates_78 x m h g (jI z) (jI (wd x h 5)) (jI (rn_ (rB_ (wd x h) g) n)) (jI (rl_ (rB_ (wd x h) g) n)) (jI (rh_ (rB_ (wd x h) g) n)) (ro_ (rB_ (wd x h) g) (rN_ (wd x h) g) mn_ (wd x h 5) n) (ro_ (rB_ (wd x h) g) (rN_ (wd x h) g) mx_ (wd x h 5) n) (jI n) = some (rv_ (wd x h) g z, h)) 101 (by omega) (fun m => by
    have z0 : jI z = (0 : Int32) ↔ z = 0 := jI_eq (b := 0) (by omega) (by omega) (by omega) (by omega)
    have z1 : jI z = (1 : Int32) ↔ z = 1 := jI_eq (b := 1) (by omega) (by omega) (by omega) (by omega)
    have z2 : jI z = (2 : Int32) ↔ z = 2 := jI_eq (b := 2) (by omega) (by omega) (by omega) (by omega)
    have z3 : jI z = (3 : Int32) ↔ z = 3 := jI_eq (b := 3) (by omega) (by omega) (by omega) (by omega)
    unfold f_X12_rates_78
    rw [if_pos (show (100 : Int32) < jI ((101 : Nat) : Int) by decide)]
    simp only [z0, z1, z2, z3]
    rfl) (fun m n hn ih => by
    have b := rn_b (B := rB_ (wd x h) g) n
    have a1 : jI (n : Int) + 1 = jI ((n + 1 : Nat) : Int) := by
      rw [show (1 : Int32) = jI 1 from rfl, jI_add]
      rfl
    have n0 : jI (rn_ (rB_ (wd x h) g) n) = (0 : Int32) ↔ rn_ (rB_ (wd x h) g) n = 0 := jI_eq (b := 0) (by omega) (by omega) (by omega) (by omega)
    rw [f_X12_rates_78, if_neg (show ¬ (100 : Int32) < jI (n : Int) from fun q => absurd ((jI_lt (a := 100) (by omega) (by omega) (by omega) (by omega)).mp q) (by omega)), r_r91 w5, a1]
    conv at ih => lhs; unfold rn_ rl_ rh_ ro_
    by_cases c : rB_ (wd x h) g n = true
    · rw [if_pos c, if_pos c, if_pos c, if_pos c, if_pos c] at ih
      rw [if_pos c]
      simp only [n0]
      rw [ji_, show (1 : Int32) = jI 1 from rfl, jI_add]
      exact ih
    · rw [if_neg c, if_neg c, if_neg c, if_neg c, if_neg c] at ih
      rw [if_neg c]
      exact ih)
theorem P_row36 {gh : Nat} {x : Nat} {K : XK} {h : XH} (I : Inv gh x K h) (a1 a2 : Int32) : ∃ h', f_row36 x h a1 a2 = some h' ∧ Inv gh x K h' := by
  obtain ⟨z1, z1a, z1b, rfl⟩ := jI_ex a1
  obtain ⟨z2, z2a, z2b, rfl⟩ := jI_ex a2
  have e0 : ∀ b1 b2, f_row36 x h b1 b2 = rc_ x (x_lb (f_X11_rates x h b1 b2) [1, 4] (fun v h => x_l h (x + 76) (0 : Int32).toNatClampNeg v.toInt64)) (fun h => f_X12_rates x h b1 b2) := fun _ _ => rfl
  rw [e0]
  have g0 : jI z1 < (0 : Int32) ↔ z1 < 0 := jlt0 z1a z1b
  have g1 : jI z1 ≤ (9999 : Int32) ↔ z1 ≤ 9999 := jI_le (b := 9999) z1a z1b (by omega) (by omega)
  have g2 : (9999 : Int32) < jI z1 ↔ 9999 < z1 := jI_lt (a := 9999) (by omega) (by omega) z1a z1b
  have k0 : jI z2 < (0 : Int32) ↔ z2 < 0 := jlt0 z2a z2b
  have k1 : jI z2 ≤ (4 : Int32) ↔ z2 ≤ 4 := jI_le (b := 4) z2a z2b (by omega) (by omega)
  have k2 : (4 : Int32) < jI z2 ↔ 4 < z2 := jI_lt (a := 4) (by omega) (by omega) z2a z2b
  have i1 : ∀ h : XH, (if f_X12_in h (jI z1) 0 9999 = 0 then (1 : Int32) else 0) = if 0 ≤ z1 ∧ z1 ≤ 9999 then jI 0 else jI 1 := fun h => by
    unfold f_X12_in
    simp only [g0, g2]
    by_cases c : z1 < 0
    · rw [if_pos c, if_pos rfl, if_neg (by omega)]; rfl
    · by_cases d : 9999 < z1
      · rw [if_neg c, if_pos d, if_pos rfl, if_neg (by omega)]; rfl
      · rw [if_neg c, if_neg d, if_neg (by decide), if_pos (by omega)]; rfl
  have i2 : ∀ h : XH, (if f_X12_in h (jI z2) 0 4 = 0 then (1 : Int32) else 0) = if 0 ≤ z2 ∧ z2 ≤ 4 then jI 0 else jI 1 := fun h => by
    unfold f_X12_in
    simp only [k0, k2]
    by_cases c : z2 < 0
    · rw [if_pos c, if_pos rfl, if_neg (by omega)]; rfl
    · by_cases d : 4 < z2
      · rw [if_neg c, if_pos d, if_pos rfl, if_neg (by omega)]; rfl
      · rw [if_neg c, if_neg d, if_neg (by decide), if_pos (by omega)]; rfl
  by_cases c1 : 0 ≤ z1 ∧ z1 ≤ 9999
  · by_cases c2 : 0 ≤ z2 ∧ z2 ≤ 4
    · refine rc_q I (res := .inr (rv_ (wd x h) (jI z1) z2)) ⟨h, ?_, Fr.rf⟩ (fun H J eH => ?_)
      · unfold f_X11_rates
        rw [if_neg (fun q => absurd (g0.mp q) (by omega)), if_pos (g1.mpr c1.2), if_neg (fun q => absurd (k0.mp q) (by omega)), if_pos (k1.mpr c2.2), c_r53 I c2]
      · have ew : wd x (x_i H (x + 64) 0 (jI 0)) = wd x h := by rw [wm0, eH]
        have rr := r_r78 (x := x) (h := x_i H (x + 64) 0 (jI 0)) (g := jI z1) (z := z2) J.m0.w5 c2
        rw [ew] at rr
        refine ⟨_, x_i H (x + 64) 0 (jI 0), ?_, fr_0, rfl, gi_s, rfl⟩
        unfold f_X12_rates
        rw [xl_, i1, if_pos c1, show x_i H (x + 64) 0 (0 : Int32) = x_i H (x + 64) 0 (jI 0) from rfl, tvz, Option.bind_some, if_pos (show jI 0 = (0 : Int32) from rfl), i2, if_pos c2, tvz, Option.bind_some, if_pos (show jI 0 = (0 : Int32) from rfl), if_pos (show x_b 5 6927 = true by decide), xl_, show (5 : Int32).toNatClampNeg = 5 from rfl, wd_j, ew]
        exact rr
    · refine rc_q I (res := .inl 4) ⟨h, ?_, Fr.rf⟩ (fun H J eH => ⟨jI 0, x_i (x_i H (x + 64) 0 (jI 0)) (x + 64) 0 (jI 2), ?_, fr_t, rfl, 1, rfl, by decide, gi_s⟩)
      · unfold f_X11_rates
        rw [if_neg (fun q => absurd (g0.mp q) (by omega)), if_pos (g1.mpr c1.2)]
        by_cases d : z2 < 0
        · rw [if_pos (k0.mpr d)]; rfl
        · rw [if_neg (fun q => d (k0.mp q)), if_neg (fun q => absurd (k1.mp q) (by omega))]; rfl
      · unfold f_X12_rates
        rw [xl_, i1, if_pos c1, show x_i H (x + 64) 0 (0 : Int32) = x_i H (x + 64) 0 (jI 0) from rfl, tvz, Option.bind_some, if_pos (show jI 0 = (0 : Int32) from rfl), i2, if_neg c2, tvo, Option.bind_some, if_neg (show ¬ jI 1 = (0 : Int32) by decide)]
        rfl
  · refine rc_q I (res := .inl 1) ⟨h, ?_, Fr.rf⟩ (fun H J eH => ⟨jI 0, x_i (x_i H (x + 64) 0 (jI 0)) (x + 64) 0 (jI 1), ?_, fr_t, rfl, 0, rfl, by decide, gi_s⟩)
    · unfold f_X11_rates
      by_cases d : z1 < 0
      · rw [if_pos (g0.mpr d)]; rfl
      · rw [if_neg (fun q => d (g0.mp q)), if_neg (fun q => absurd (g1.mp q) (by omega))]; rfl
    · unfold f_X12_rates
      rw [xl_, i1, if_neg c1, show x_i H (x + 64) 0 (0 : Int32) = x_i H (x + 64) 0 (jI 0) from rfl, tvo, Option.bind_some, if_neg (show ¬ jI 1 = (0 : Int32) by decide)]
      rfl
