/-! ===== guesses: all ways ===== -/
theorem sm_x {a b : Nat} {f : Nat → Nat → Int} : sm_ a (fun i => sm_ b (fun j => f i j)) = sm_ b (fun j => sm_ a (fun i => f i j)) := by
  induction a with
  | zero => exact (sm_z (n := b)).symm
  | succ a ih =>
    rw [sm_s, ih, ← sm_p]
    rfl
theorem sm_ad {a b : Nat} {f : Nat → Int} : sm_ (a + b) f = sm_ a f + sm_ b (fun i => f (a + i)) := by
  induction b with
  | zero => rw [Nat.add_zero, sm_0, Int.add_zero]
  | succ b ih =>
    rw [← Nat.add_assoc, sm_s, ih, sm_s]
    omega
theorem sm_ml {n : Nat} {f : Nat → Int} {c : Int} : sm_ n (fun i => f i * c) = sm_ n f * c := by
  induction n with
  | zero => rw [sm_0, sm_0, Int.zero_mul]
  | succ n ih => rw [sm_s, sm_s, ih, Int.add_mul]
theorem sm_dm {M B : Nat} (F : Nat → Nat → Int) (hM : 0 < M) : sm_ (M * B) (fun n => F (n % M) (n / M)) = sm_ B (fun j => sm_ M (fun k => F k j)) := by
  induction B with
  | zero => rw [Nat.mul_zero, sm_0, sm_0]
  | succ B ih =>
    rw [Nat.mul_succ, sm_ad, ih, sm_s]
    congr 1
    refine sm_c fun i hi => ?_
    rw [Nat.mul_add_mod, Nat.mod_eq_of_lt hi, Nat.mul_add_div hM, Nat.div_eq_of_lt hi, Nat.add_zero]
def tt_ (hit : Nat → Nat → Nat) (M : Nat) (f : Nat → Int) : Nat → Nat → Nat → Nat → Int
  | 0, _, _, right => f right
  | rem + 1, at', used, right => sm_ M (fun k => if used.testBit k = true then 0 else tt_ hit M f rem (at' + 1) (used ||| 2 ^ k) (right + hit at' k))
def tN_ (M : Nat) : Nat → Nat → Nat
  | 0, _ => 1
  | rem + 1, used => (List.range M).foldl (fun s k => s + (if used.testBit k = true then 0 else tN_ M rem (used ||| 2 ^ k))) 0
theorem fl_s (g : Nat → Nat) : ∀ n, (((List.range n).foldl (fun s k => s + g k) 0 : Nat) : Int) = sm_ n (fun k => (g k : Int)) := by
  intro n
  induction n with
  | zero => rfl
  | succ n ih =>
    rw [List.range_succ, List.foldl_append, sm_s, ← ih]
    simp only [List.foldl_cons, List.foldl_nil]
    omega
theorem tN_e {hit : Nat → Nat → Nat} {M : Nat} : ∀ rem at' used right, tt_ hit M (fun _ => 1) rem at' used right = (tN_ M rem used : Int) := by
  intro rem
  induction rem with
  | zero => intros; rfl
  | succ rem ih =>
    intro at' used right
    unfold tt_ tN_
    rw [fl_s]
    refine sm_c fun k hk => ?_
    by_cases c : used.testBit k = true
    · rw [if_pos c, if_pos c]; rfl
    · rw [if_neg c, if_neg c, ih]
theorem tt_b {hit : Nat → Nat → Nat} {M : Nat} {f : Nat → Int} {lo hi : Int} (hl : lo ≤ 0) (hh : 0 ≤ hi) (hf : ∀ r, lo ≤ f r ∧ f r ≤ hi) : ∀ rem at' used right, lo * (tN_ M rem used : Int) ≤ tt_ hit M f rem at' used right ∧ tt_ hit M f rem at' used right ≤ hi * (tN_ M rem used : Int) := by
  intro rem
  induction rem with
  | zero =>
    intro at' used right
    have := hf right
    unfold tt_ tN_
    omega
  | succ rem ih =>
    intro at' used right
    unfold tt_ tN_
    rw [fl_s, Int.mul_comm lo, Int.mul_comm hi, ← sm_ml, ← sm_ml]
    have key : ∀ n, sm_ n (fun k => ((if used.testBit k = true then 0 else tN_ M rem (used ||| 2 ^ k) : Nat) : Int) * lo) ≤ sm_ n (fun k => if used.testBit k = true then 0 else tt_ hit M f rem (at' + 1) (used ||| 2 ^ k) (right + hit at' k)) ∧ sm_ n (fun k => if used.testBit k = true then 0 else tt_ hit M f rem (at' + 1) (used ||| 2 ^ k) (right + hit at' k)) ≤ sm_ n (fun k => ((if used.testBit k = true then 0 else tN_ M rem (used ||| 2 ^ k) : Nat) : Int) * hi) := by
      intro n
      induction n with
      | zero => exact ⟨Int.le_refl _, Int.le_refl _⟩
      | succ n ihn =>
        rw [sm_s, sm_s, sm_s]
        by_cases c : used.testBit n = true
        · simp only [if_pos c]
          rw [show ((0 : Nat) : Int) = 0 from rfl, Int.zero_mul, Int.zero_mul]
          omega
        · simp only [if_neg c]
          have i := ih (at' + 1) (used ||| 2 ^ n) (right + hit at' n)
          rw [Int.mul_comm lo, Int.mul_comm hi] at i
          omega
    exact key M
theorem tN_720 : ∀ M : Fin 7, ∀ g : Fin 6, tN_ M.val g.val 0 ≤ 720 ∧ (g.val ≤ M.val → 1 ≤ tN_ M.val g.val 0) := by decide +kernel
/-- by how many are right, and then the worth of that -/
theorem tt_w {hit : Nat → Nat → Nat} {M R : Nat} {f : Nat → Int} (h1 : ∀ a k, hit a k ≤ 1) : ∀ rem at' used right, right + rem ≤ R → sm_ (R + 1) (fun r => tt_ hit M (fun q => if q = r then 1 else 0) rem at' used right * f r) = tt_ hit M f rem at' used right := by
  intro rem
  induction rem with
  | zero =>
    intro at' used right hr
    unfold tt_
    rw [sm_u (p := right) (g := fun _ => 0) (by omega) (fun i hi hne => by rw [if_neg (fun e => hne e.symm), Int.zero_mul]), sm_z, if_pos rfl]
    omega
  | succ rem ih =>
    intro at' used right hr
    unfold tt_
    have e : sm_ (R + 1) (fun r => sm_ M (fun k => if used.testBit k = true then 0 else tt_ hit M (fun q => if q = r then 1 else 0) rem (at' + 1) (used ||| 2 ^ k) (right + hit at' k)) * f r) = sm_ (R + 1) (fun r => sm_ M (fun k => (if used.testBit k = true then 0 else tt_ hit M (fun q => if q = r then 1 else 0) rem (at' + 1) (used ||| 2 ^ k) (right + hit at' k)) * f r)) := sm_c fun r _ => (sm_ml).symm
    rw [e, sm_x]
    refine sm_c fun k hk => ?_
    by_cases c : used.testBit k = true
    · simp only [if_pos c, Int.zero_mul]
      exact sm_z
    · simp only [if_neg c]
      exact ih _ _ _ (by have := h1 at' k; omega)
/-- one number, digit by digit: whether each is another one, and how many are right -/
def ce_ (hit : Nat → Nat → Nat) (M : Nat) : Nat → Nat → Nat → Nat → Bool → Nat → Bool × Nat
  | 0, _, _, right, each, _ => (each, right)
  | rem + 1, at', used, right, each, left => ce_ hit M rem (at' + 1) (used ||| 2 ^ (left % M)) (right + hit at' (left % M)) (each && !used.testBit (left % M)) (left / M)
theorem ce_f {hit : Nat → Nat → Nat} {M : Nat} : ∀ rem at' used right left, (ce_ hit M rem at' used right false left).1 = false := by
  intro rem
  induction rem with
  | zero => intros; rfl
  | succ rem ih =>
    intro at' used right left
    unfold ce_
    rw [Bool.false_and]
    exact ih _ _ _ _
theorem ce_t {hit : Nat → Nat → Nat} {M : Nat} {f : Nat → Int} (hM : 0 < M) : ∀ rem at' used right, sm_ (M ^ rem) (fun n => if (ce_ hit M rem at' used right true n).1 = true then f (ce_ hit M rem at' used right true n).2 else 0) = tt_ hit M f rem at' used right := by
  intro rem
  induction rem with
  | zero =>
    intro at' used right
    show 0 + (if true = true then f right else 0) = f right
    rw [if_pos rfl, Int.zero_add]
  | succ rem ih =>
    intro at' used right
    rw [Nat.pow_succ, Nat.mul_comm]
    have st : ∀ n, ce_ hit M (rem + 1) at' used right true n = ce_ hit M rem (at' + 1) (used ||| 2 ^ (n % M)) (right + hit at' (n % M)) (!used.testBit (n % M)) (n / M) := fun n => by
      show ce_ hit M rem _ _ _ (true && !used.testBit (n % M)) _ = _
      rw [Bool.true_and]
    have e2 := sm_dm (M := M) (B := M ^ rem) (fun k j => if (ce_ hit M rem (at' + 1) (used ||| 2 ^ k) (right + hit at' k) (!used.testBit k) j).1 = true then f (ce_ hit M rem (at' + 1) (used ||| 2 ^ k) (right + hit at' k) (!used.testBit k) j).2 else 0) hM
    simp only [st]
    rw [e2, sm_x]
    unfold tt_
    refine sm_c fun k hk => ?_
    by_cases c : used.testBit k = true
    · rw [if_pos c, c]
      have z : ∀ j, (if (ce_ hit M rem (at' + 1) (used ||| 2 ^ k) (right + hit at' k) (!true) j).1 = true then f (ce_ hit M rem (at' + 1) (used ||| 2 ^ k) (right + hit at' k) (!true) j).2 else 0) = 0 := fun j => by
        rw [show (!true) = false from rfl, ce_f, if_neg (by decide)]
      rw [show (fun i => if (ce_ hit M rem (at' + 1) (used ||| 2 ^ k) (right + hit at' k) (!true) i).1 = true then f (ce_ hit M rem (at' + 1) (used ||| 2 ^ k) (right + hit at' k) (!true) i).2 else 0) = fun _ => 0 from funext z]
      exact sm_z
    · rw [if_neg c, show used.testBit k = false by simpa using c]
      exact ih _ _ _
theorem ce_r {hit : Nat → Nat → Nat} {M : Nat} (h1 : ∀ a k, hit a k ≤ 1) : ∀ rem at' used right each left, (ce_ hit M rem at' used right each left).2 ≤ right + rem := by
  intro rem
  induction rem with
  | zero => intros; exact Nat.le_refl _
  | succ rem ih =>
    intro at' used right each left
    unfold ce_
    have := ih (at' + 1) (used ||| 2 ^ (left % M)) (right + hit at' (left % M)) (each && !used.testBit (left % M)) (left / M)
    have := h1 at' (left % M)
    omega
theorem or_6 : ∀ u : Fin 64, ∀ k : Fin 6, jI (u.val : Int) ||| x_shl 1 (jI (k.val : Int)) = jI ((u.val ||| 2 ^ k.val : Nat) : Int) ∧ u.val ||| 2 ^ k.val < 64 := by decide +kernel
theorem oj_6 {u k : Nat} (hu : u < 64) (hk : k < 6) : jI (u : Int) ||| x_shl 1 (jI (k : Int)) = jI ((u ||| 2 ^ k : Nat) : Int) ∧ u ||| 2 ^ k < 64 := or_6 ⟨u, hu⟩ ⟨k, hk⟩
/-! what lacks, and blanks, by their places -/
theorem cd_in {w : Nat → Int} {p i j : Nat} (h1 : 1 ≤ w (290 + 81 * p + 1) ∧ w (290 + 81 * p + 1) < 52) (h2 : w (290 + 81 * p + 1) % 2 = 1) (h3 : w (290 + 81 * p + 1) % 13 ≠ 0) (hi : i < 52) (hj : j < 52) (e : cd_ w p i = cd_ w p j) : i = j := by
  have key : ∀ s : Fin 52, s.val % 2 = 1 → s.val % 13 ≠ 0 → ∀ d : Fin 52, 0 < d.val → (d.val * s.val) % 52 ≠ 0 := by decide +kernel
  have main : ∀ i j : Nat, i < j → j < 52 → cd_ w p i ≠ cd_ w p j := fun i j hij hj e => by
    unfold cd_ at e
    obtain ⟨s, hs⟩ : ∃ s : Nat, w (290 + 81 * p + 1) = s := ⟨(w (290 + 81 * p + 1)).toNat, by omega⟩
    rw [hs] at e h1 h2 h3
    have k := key ⟨s, by omega⟩ (by show s % 2 = 1; omega) (by show s % 13 ≠ 0; omega) ⟨j - i, by omega⟩ (by show 0 < j - i; omega)
    have k' : ((j - i) * s) % 52 ≠ 0 := k
    apply k'
    have e2 : (w (290 + 81 * p) + (j : Int) * (s : Int)) - (w (290 + 81 * p) + (i : Int) * (s : Int)) = (((j - i) * s : Nat) : Int) := by
      rw [Int.natCast_mul, show ((j - i : Nat) : Int) = (j : Int) - i by omega, Int.sub_mul]
      omega
    have e3 := Int.emod_emod_of_dvd
    have : (((j - i) * s : Nat) : Int) % 52 = 0 := by
      rw [← e2]
      omega
    omega
  by_cases c : i < j
  · exact absurd e (main i j c hj)
  · by_cases d : j < i
    · exact absurd e.symm (main j i d hi)
    · omega
theorem la_at {w : Nat → Int} {p : Nat} : ∀ (n i j : Nat) (l : Int), i ≤ j → j < i + n → isd_ w p (cd_ w p j) = false → lm_ w p j - lm_ w p i = l → la_ w p n i l = cd_ w p j := by
  have st : ∀ i, lm_ w p (i + 1) = lm_ w p i + (if isd_ w p (cd_ w p i) = true then 0 else 1) := fun _ => rfl
  have mono : ∀ d i, lm_ w p i ≤ lm_ w p (i + d) := fun d => by
    induction d with
    | zero => intro i; exact Int.le_refl _
    | succ d ih =>
      intro i
      have a := ih i
      have b := st (i + d)
      rw [← Nat.add_assoc, b]
      split <;> omega
  intro n
  induction n with
  | zero => intro i j l h1 h2; omega
  | succ n ih =>
    intro i j l h1 h2 h3 h4
    have s := st i
    unfold la_
    by_cases c : isd_ w p (cd_ w p i) = true
    · rw [if_pos c]
      rw [if_pos c, Int.add_zero] at s
      have : i ≠ j := fun e => by rw [e, h3] at c; exact absurd c (by decide)
      exact ih (i + 1) j l (by omega) (by omega) h3 (by rw [s]; exact h4)
    · rw [if_neg c]
      rw [if_neg c] at s
      by_cases e : i = j
      · subst e
        rw [if_pos (by omega)]
      · have m := mono (j - (i + 1)) (i + 1)
        rw [show i + 1 + (j - (i + 1)) = j by omega] at m
        rw [if_neg (by omega)]
        exact ih (i + 1) j (l - 1) (by omega) (by omega) h3 (by omega)
/-- a count that goes up by one at those of which F holds: each number below it is reached at one of these -/
theorem up_ex {F : Nat → Bool} {c : Nat → Int} (c0 : c 0 = 0) (cs : ∀ i, c (i + 1) = c i + (if F i = true then 1 else 0)) : ∀ n k : Nat, (k : Int) < c n → ∃ i, i < n ∧ F i = true ∧ c i = k := by
  intro n
  induction n with
  | zero => intro k hk; omega
  | succ n ih =>
    intro k hk
    have s := cs n
    by_cases d : (k : Int) < c n
    · obtain ⟨i, h1, h2, h3⟩ := ih k d
      exact ⟨i, by omega, h2, h3⟩
    · by_cases e : F n = true
      · rw [if_pos e] at s
        exact ⟨n, by omega, e, by omega⟩
      · rw [if_neg e] at s
        omega
theorem lo_ex {w : Nat → Int} {p k : Nat} (hk : (k : Int) < lm_ w p (w (290 + 81 * p + 2)).toNat) : ∃ i, i < (w (290 + 81 * p + 2)).toNat ∧ lm_ w p i = k ∧ lo_ w p k = cd_ w p i := by
  obtain ⟨i, h1, h2, h3⟩ := up_ex (F := fun i => !isd_ w p (cd_ w p i)) (c := fun i => lm_ w p i) rfl (fun i => by
    show lm_ w p i + (if isd_ w p (cd_ w p i) = true then 0 else 1) = _
    cases isd_ w p (cd_ w p i) <;> rfl) (w (290 + 81 * p + 2)).toNat k hk
  refine ⟨i, h1, h3, ?_⟩
  unfold lo_
  exact la_at _ 0 i k (by omega) (by omega) (by simpa using h2) (by
    have z : lm_ w p 0 = 0 := rfl
    have h3' : lm_ w p i = k := h3
    omega)
theorem lo_in {w : Nat → Int} {p k l : Nat} (W : WPk w (290 + 81 * p)) (hk : (k : Int) < lm_ w p (w (290 + 81 * p + 2)).toNat) (hl : (l : Int) < lm_ w p (w (290 + 81 * p + 2)).toNat) (e : lo_ w p k = lo_ w p l) : k = l := by
  obtain ⟨-, -, p3, p4, p5, p6, p7, p8, -⟩ := W
  obtain ⟨i, a1, a2, a3⟩ := lo_ex hk
  obtain ⟨j, b1, b2, b3⟩ := lo_ex hl
  rw [a3, b3] at e
  have := cd_in ⟨p3, p4⟩ p5 p6 (by omega) (by omega) e
  subst this
  omega
