/-! ===== plans: all ways, by their digits ===== -/
def ff_ {α : Type} (st : Nat → α → α) : Nat → α → α
  | 0, S => S
  | k + 1, S => st k (ff_ st k S)
theorem ff_a {α : Type} {st : Nat → α → α} {a : Nat} : ∀ b S, ff_ st (a + b) S = ff_ (fun i => st (a + i)) b (ff_ st a S) := by
  intro b
  induction b with
  | zero => intro S; rfl
  | succ b ih =>
    intro S
    show st (a + b) (ff_ st (a + b) S) = st (a + b) (ff_ (fun i => st (a + i)) b (ff_ st a S))
    rw [ih]
theorem ff_c {α : Type} {st st' : Nat → α → α} : ∀ n S, (∀ k, k < n → ∀ S, st k S = st' k S) → ff_ st n S = ff_ st' n S := by
  intro n
  induction n with
  | zero => intros; rfl
  | succ n ih =>
    intro S h
    show st n (ff_ st n S) = st' n (ff_ st' n S)
    rw [ih S (fun k hk => h k (by omega)), h n (by omega)]
theorem ff_i {α : Type} {st : Nat → α → α} : ∀ n S, (∀ k, k < n → ∀ S, st k S = S) → ff_ st n S = S := by
  intro n
  induction n with
  | zero => intros; rfl
  | succ n ih =>
    intro S h
    show st n (ff_ st n S) = S
    rw [h n (by omega), ih S (fun k hk => h k (by omega))]
theorem ff_b {α : Type} {st : Nat → α → α} {B : Nat} : ∀ H S, ff_ st (H * B) S = ff_ (fun d S' => ff_ (fun j => st (d * B + j)) B S') H S := by
  intro H
  induction H with
  | zero => intro S; rw [Nat.zero_mul]; rfl
  | succ H ih =>
    intro S
    rw [Nat.succ_mul, ff_a, ih]
    rfl
/-- the digits of a number, the first one first -/
def dg_ (H : Nat) : Nat → Nat → List Nat
  | 0, _ => []
  | n + 1, w => (w / H ^ n) :: dg_ H n (w % H ^ n)
/-- the last one first -/
def eg_ (H : Nat) : Nat → Nat → List Nat
  | 0, _ => []
  | n + 1, w => (w % H) :: eg_ H n (w / H)
theorem dg_l {H : Nat} : ∀ n w, (dg_ H n w).length = n := by
  intro n
  induction n with
  | zero => intro w; rfl
  | succ n ih =>
    intro w
    show (dg_ H n _).length + 1 = n + 1
    rw [ih]
theorem eg_l {H : Nat} : ∀ n w, (eg_ H n w).length = n := by
  intro n
  induction n with
  | zero => intro w; rfl
  | succ n ih =>
    intro w
    show (eg_ H n _).length + 1 = n + 1
    rw [ih]
theorem dg_s {H : Nat} : ∀ n w, w < H ^ (n + 1) → dg_ H (n + 1) w = dg_ H n (w / H) ++ [w % H] := by
  intro n
  induction n with
  | zero =>
    intro w hw
    rw [Nat.zero_add, Nat.pow_one] at hw
    show [w / H ^ 0] = [w % H]
    rw [Nat.pow_zero, Nat.div_one, Nat.mod_eq_of_lt hw]
  | succ n ih =>
    intro w hw
    have H0 : 0 < H := by
      rcases Nat.eq_zero_or_pos H with e | e
      · rw [e, Nat.zero_pow (by omega)] at hw
        omega
      · exact e
    have p0 : 0 < H ^ (n + 1) := Nat.pow_pos H0
    show (w / H ^ (n + 1)) :: dg_ H (n + 1) (w % H ^ (n + 1)) = ((w / H / H ^ n) :: dg_ H n (w / H % H ^ n)) ++ [w % H]
    rw [ih _ (Nat.mod_lt _ p0), Nat.div_div_eq_div_mul, Nat.mul_comm H (H ^ n), ← Nat.pow_succ]
    have e1 : w % H ^ (n + 1) / H = w / H % H ^ n := by
      rw [Nat.pow_succ, Nat.mul_comm]
      exact Nat.mod_mul_right_div_self _ _ _
    have e2 : w % H ^ (n + 1) % H = w % H := by
      rw [Nat.pow_succ, Nat.mul_comm]
      exact Nat.mod_mul_right_mod _ _ _
    rw [e1, e2]
    rfl
theorem eg_r {H : Nat} : ∀ n w, w < H ^ n → (eg_ H n w).reverse = dg_ H n w := by
  intro n
  induction n with
  | zero => intros; rfl
  | succ n ih =>
    intro w hw
    have hw' : w / H < H ^ n := by
      rw [Nat.pow_succ, Nat.mul_comm] at hw
      exact Nat.div_lt_of_lt_mul hw
    rw [dg_s n w hw]
    show ((w % H) :: eg_ H n (w / H)).reverse = _
    rw [List.reverse_cons, ih _ hw']
/-! which ways can be: from the first on, and from the last on -/
def VA (W : Nat → Nat → Int) : List Nat → Nat → Nat → Bool
  | [], _, _ => true
  | d :: l, k, u => (decide (0 ≤ W k d) && !u.testBit d) && VA W l (k + 1) (u ||| 2 ^ d)
def SU (W : Nat → Nat → Int) : List Nat → Nat → Int
  | [], _ => 0
  | d :: l, k => W k d + SU W l (k + 1)
def RC (W : Nat → Nat → Int) : List Nat → Nat → Bool
  | [], _ => true
  | d :: r, u => (!u.testBit d && decide (0 ≤ W r.length d)) && RC W r (u ||| 2 ^ d)
def SR (W : Nat → Nat → Int) : List Nat → Int
  | [] => 0
  | d :: r => W r.length d + SR W r
def UL (l : List Nat) (u : Nat) : Nat := l.foldl (fun u d => u ||| 2 ^ d) u
theorem UL_t {d : Nat} : ∀ l u, (UL l u).testBit d = (u.testBit d || l.contains d) := by
  intro l
  induction l with
  | nil => intro u; simp [UL]
  | cons e l ih =>
    intro u
    show (UL l (u ||| 2 ^ e)).testBit d = _
    rw [ih, Nat.testBit_or, Nat.testBit_two_pow, List.contains_cons]
    by_cases c : d = e
    · subst c; simp
    · have c' : ¬ e = d := fun z => c z.symm
      simp [c, c', show (d == e) = false from beq_eq_false_iff_ne.mpr c]
theorem VA_u {W : Nat → Nat → Int} {d : Nat} : ∀ l k u, VA W l k (u ||| 2 ^ d) = (VA W l k u && !l.contains d) := by
  intro l
  induction l with
  | nil => intro k u; simp [VA]
  | cons e l ih =>
    intro k u
    unfold VA
    rw [Nat.or_assoc, Nat.or_comm (2 ^ d), ← Nat.or_assoc, ih, Nat.testBit_or, Nat.testBit_two_pow, List.contains_cons]
    by_cases c : d = e
    · subst c; simp
    · have c' : ¬ e = d := fun z => c z.symm
      simp only [c, c', decide_false, Bool.or_false, Bool.not_or, show (d == e) = false from beq_eq_false_iff_ne.mpr c]
      cases decide (0 ≤ W k e) <;> cases u.testBit e <;> cases VA W l (k + 1) (u ||| 2 ^ e) <;> simp
theorem VA_s {W : Nat → Nat → Int} {d : Nat} : ∀ l k u, VA W (l ++ [d]) k u = (VA W l k u && (decide (0 ≤ W (k + l.length) d) && !(UL l u).testBit d)) := by
  intro l
  induction l with
  | nil =>
    intro k u
    simp [VA, UL]
  | cons e l ih =>
    intro k u
    show ((decide (0 ≤ W k e) && !u.testBit e) && VA W (l ++ [d]) (k + 1) (u ||| 2 ^ e)) = (((decide (0 ≤ W k e) && !u.testBit e) && VA W l (k + 1) (u ||| 2 ^ e)) && (decide (0 ≤ W (k + (l.length + 1)) d) && !(UL l (u ||| 2 ^ e)).testBit d))
    rw [ih, show k + 1 + l.length = k + (l.length + 1) by omega]
    simp only [Bool.and_assoc]
theorem SU_s {W : Nat → Nat → Int} {d : Nat} : ∀ l k, SU W (l ++ [d]) k = SU W l k + W (k + l.length) d := by
  intro l
  induction l with
  | nil =>
    intro k
    show W k d + 0 = 0 + W (k + 0) d
    rw [Nat.add_zero]
    omega
  | cons e l ih =>
    intro k
    show W k e + SU W (l ++ [d]) (k + 1) = (W k e + SU W l (k + 1)) + W (k + (l.length + 1)) d
    rw [ih, show k + 1 + l.length = k + (l.length + 1) by omega]
    omega
theorem RC_e {W : Nat → Nat → Int} : ∀ r u, RC W r u = VA W r.reverse 0 u := by
  intro r
  induction r with
  | nil => intros; rfl
  | cons d r ih =>
    intro u
    rw [List.reverse_cons, VA_s, UL_t, Nat.zero_add, List.length_reverse]
    show ((!u.testBit d && decide (0 ≤ W r.length d)) && RC W r (u ||| 2 ^ d)) = _
    rw [ih, VA_u]
    cases u.testBit d <;> cases decide (0 ≤ W r.length d) <;> cases VA W r.reverse 0 u <;> cases r.reverse.contains d <;> rfl
theorem SR_e {W : Nat → Nat → Int} : ∀ r, SR W r = SU W r.reverse 0 := by
  intro r
  induction r with
  | nil => rfl
  | cons d r ih =>
    rw [List.reverse_cons, SU_s, Nat.zero_add, List.length_reverse, ← ih]
    show W r.length d + SR W r = _
    omega
/-! the search, house by house -/
def dS_ (W : Nat → Nat → Int) (H n : Nat) : Nat → Nat → Int → List Nat → Int × List Nat → Int × List Nat
  | 0, _, sum, pre, S => if S.1 < sum then (sum, pre) else S
  | rem + 1, used, sum, pre, S => ff_ (fun h S' => if 0 ≤ W (n - (rem + 1)) h ∧ used.testBit h = false then dS_ W H n rem (used ||| 2 ^ h) (sum + W (n - (rem + 1)) h) (pre ++ [h]) S' else S') H S
def sL_9 (W : Nat → Nat → Int) (k used : Nat) (sum : Int) (pre l : List Nat) (S : Int × List Nat) : Int × List Nat := if VA W l k used = true then (if S.1 < sum + SU W l k then (sum + SU W l k, pre ++ l) else S) else S
theorem dS_e {W : Nat → Nat → Int} {H n : Nat} : ∀ rem used sum pre S, rem ≤ n → dS_ W H n rem used sum pre S = ff_ (fun j S' => sL_9 W (n - rem) used sum pre (dg_ H rem j) S') (H ^ rem) S := by
  intro rem
  induction rem with
  | zero =>
    intro used sum pre S _
    show (if S.1 < sum then (sum, pre) else S) = sL_9 W (n - 0) used sum pre [] S
    unfold sL_9
    rw [if_pos (show VA W [] (n - 0) used = true from rfl)]
    show _ = if S.1 < sum + 0 then (sum + 0, pre ++ []) else S
    rw [Int.add_zero, List.append_nil]
  | succ rem ih =>
    intro used sum pre S hn
    rw [Nat.pow_succ, Nat.mul_comm, ff_b]
    unfold dS_
    refine ff_c H S (fun d hd S' => ?_)
    by_cases B0 : 0 < H ^ rem
    · have dig : ∀ j, j < H ^ rem → dg_ H (rem + 1) (d * H ^ rem + j) = d :: dg_ H rem j := fun j hj => by
        show ((d * H ^ rem + j) / H ^ rem) :: dg_ H rem ((d * H ^ rem + j) % H ^ rem) = _
        rw [Nat.mul_comm, Nat.mul_add_div B0, Nat.div_eq_of_lt hj, Nat.add_zero, Nat.mul_add_mod, Nat.mod_eq_of_lt hj]
      have e : n - (rem + 1) + 1 = n - rem := by omega
      by_cases c : 0 ≤ W (n - (rem + 1)) d ∧ used.testBit d = false
      · rw [if_pos c, ih _ _ _ _ (by omega)]
        refine ff_c _ S' (fun j hj S'' => ?_)
        rw [dig j hj]
        unfold sL_9
        show _ = if ((decide (0 ≤ W (n - (rem + 1)) d) && !used.testBit d) && VA W (dg_ H rem j) (n - (rem + 1) + 1) (used ||| 2 ^ d)) = true then (if S''.1 < sum + (W (n - (rem + 1)) d + SU W (dg_ H rem j) (n - (rem + 1) + 1)) then (sum + (W (n - (rem + 1)) d + SU W (dg_ H rem j) (n - (rem + 1) + 1)), pre ++ d :: dg_ H rem j) else S'') else S''
        rw [decide_eq_true c.1, c.2, e, Int.add_assoc, List.append_assoc]
        rfl
      · rw [if_neg c]
        refine (ff_i _ S' (fun j hj S'' => ?_)).symm
        rw [dig j hj]
        unfold sL_9
        have f : ((decide (0 ≤ W (n - (rem + 1)) d) && !used.testBit d) && VA W (dg_ H rem j) (n - (rem + 1) + 1) (used ||| 2 ^ d)) = false := by
          by_cases c1 : 0 ≤ W (n - (rem + 1)) d
          · rw [show used.testBit d = true by simpa using fun q => c ⟨c1, q⟩, Bool.not_true, Bool.and_false, Bool.false_and]
          · rw [decide_eq_false c1, Bool.false_and, Bool.false_and]
        rw [if_neg (show ¬ VA W (d :: dg_ H rem j) (n - (rem + 1)) used = true from fun q => by
          have q' : ((decide (0 ≤ W (n - (rem + 1)) d) && !used.testBit d) && VA W (dg_ H rem j) (n - (rem + 1) + 1) (used ||| 2 ^ d)) = true := q
          rw [f] at q'
          exact absurd q' (by decide))]
    · have H0 : H = 0 := by
        rcases Nat.eq_zero_or_pos H with q | q
        · exact q
        · exact absurd (Nat.pow_pos q) B0
      omega
/-- by numbers: the sum and the number of the best -/
def fw_ (W : Nat → Nat → Int) (H n : Nat) : Nat → Int × Int
  | 0 => (-1, -1)
  | w + 1 => if VA W (dg_ H n w) 0 0 = true ∧ (fw_ W H n w).1 < SU W (dg_ H n w) 0 then (SU W (dg_ H n w) 0, (w : Int)) else fw_ W H n w
theorem SU_p {W : Nat → Nat → Int} : ∀ l k u, VA W l k u = true → 0 ≤ SU W l k := by
  intro l
  induction l with
  | nil => intros; exact Int.le_refl _
  | cons d l ih =>
    intro k u h
    have h' : ((decide (0 ≤ W k d) && !u.testBit d) && VA W l (k + 1) (u ||| 2 ^ d)) = true := h
    rw [Bool.and_eq_true, Bool.and_eq_true, decide_eq_true_iff] at h'
    have := ih (k + 1) _ h'.2
    show 0 ≤ W k d + SU W l (k + 1)
    omega
theorem fw_r {W : Nat → Nat → Int} {H n : Nat} : ∀ w, (ff_ (fun j S' => sL_9 W 0 0 0 [] (dg_ H n j) S') w (-1, [])).1 = (fw_ W H n w).1 ∧ -1 ≤ (fw_ W H n w).1 ∧ -1 ≤ (fw_ W H n w).2 ∧ (fw_ W H n w).2 < w ∧ ((fw_ W H n w).2 = -1 ↔ (fw_ W H n w).1 = -1) ∧ (0 ≤ (fw_ W H n w).2 → (ff_ (fun j S' => sL_9 W 0 0 0 [] (dg_ H n j) S') w (-1, [])).2 = dg_ H n (fw_ W H n w).2.toNat) := by
  intro w
  induction w with
  | zero => exact ⟨rfl, by show -1 ≤ (-1 : Int); omega, by show -1 ≤ (-1 : Int); omega, by show (-1 : Int) < 0; omega, Iff.rfl.trans ⟨fun _ => rfl, fun _ => rfl⟩, fun h => absurd h (by show ¬ 0 ≤ (-1 : Int); omega)⟩
  | succ w ih =>
    obtain ⟨i1, i2, i3, i4, i5, i6⟩ := ih
    have st : ff_ (fun j S' => sL_9 W 0 0 0 [] (dg_ H n j) S') (w + 1) (-1, []) = sL_9 W 0 0 0 [] (dg_ H n w) (ff_ (fun j S' => sL_9 W 0 0 0 [] (dg_ H n j) S') w (-1, [])) := rfl
    rw [st]
    generalize ff_ (fun j S' => sL_9 W 0 0 0 [] (dg_ H n j) S') w (-1, []) = S0 at i1 i6 ⊢
    rw [show sL_9 W 0 0 0 [] (dg_ H n w) S0 = if VA W (dg_ H n w) 0 0 = true then (if S0.1 < 0 + SU W (dg_ H n w) 0 then (0 + SU W (dg_ H n w) 0, [] ++ dg_ H n w) else S0) else S0 from rfl, show fw_ W H n (w + 1) = if VA W (dg_ H n w) 0 0 = true ∧ (fw_ W H n w).1 < SU W (dg_ H n w) 0 then (SU W (dg_ H n w) 0, (w : Int)) else fw_ W H n w from rfl]
    by_cases c : VA W (dg_ H n w) 0 0 = true
    · have sp := SU_p _ _ _ c
      rw [if_pos c, Int.zero_add, i1, List.nil_append]
      by_cases d : (fw_ W H n w).1 < SU W (dg_ H n w) 0
      · rw [if_pos d, if_pos ⟨c, d⟩]
        refine ⟨rfl, by show -1 ≤ SU W (dg_ H n w) 0; omega, by show -1 ≤ (w : Int); omega, by show (w : Int) < ((w + 1 : Nat) : Int); omega, ⟨fun q => ?_, fun q => ?_⟩, fun _ => ?_⟩
        · have q' : (w : Int) = -1 := q
          omega
        · have q' : SU W (dg_ H n w) 0 = -1 := q
          omega
        · show dg_ H n w = dg_ H n (w : Int).toNat
          rw [Int.toNat_natCast]
      · rw [if_neg d, if_neg (fun q => d q.2)]
        exact ⟨i1, i2, i3, by omega, i5, i6⟩
    · rw [if_neg c, if_neg (fun q => c q.1)]
      exact ⟨i1, i2, i3, by omega, i5, i6⟩
theorem pl_e {W : Nat → Nat → Int} {H n : Nat} : (dS_ W H n n 0 0 [] (-1, [])).1 = (fw_ W H n (H ^ n)).1 ∧ (0 ≤ (fw_ W H n (H ^ n)).2 → (dS_ W H n n 0 0 [] (-1, [])).2 = dg_ H n (fw_ W H n (H ^ n)).2.toNat) := by
  rw [dS_e n 0 0 [] (-1, []) (Nat.le_refl _), Nat.sub_self]
  exact ⟨(fw_r (H ^ n)).1, (fw_r (H ^ n)).2.2.2.2.2⟩
theorem dS_1 {W : Nat → Nat → Int} {H n : Nat} : ∀ rem used sum pre S, -1 ≤ S.1 → -1 ≤ (dS_ W H n rem used sum pre S).1 := by
  intro rem
  induction rem with
  | zero =>
    intro used sum pre S h
    unfold dS_
    split
    · show -1 ≤ sum
      omega
    · exact h
  | succ rem ih =>
    intro used sum pre S h
    unfold dS_
    have key : ∀ k, -1 ≤ (ff_ (fun h S' => if 0 ≤ W (n - (rem + 1)) h ∧ used.testBit h = false then dS_ W H n rem (used ||| 2 ^ h) (sum + W (n - (rem + 1)) h) (pre ++ [h]) S' else S') k S).1 := by
      intro k
      induction k with
      | zero => exact h
      | succ k ihk =>
        show -1 ≤ (if 0 ≤ W (n - (rem + 1)) k ∧ used.testBit k = false then dS_ W H n rem (used ||| 2 ^ k) (sum + W (n - (rem + 1)) k) (pre ++ [k]) (ff_ _ k S) else ff_ _ k S).1
        split
        · exact ih _ _ _ _ ihk
        · exact ihk
    exact key H
