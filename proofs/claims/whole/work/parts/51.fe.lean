/-! ===== feed: the tape grows ===== -/
theorem by_f : ∃ z : Int32 → Nat → Int, ∀ (v : Int32) (i : Nat), i < 4 → 0 ≤ z v i ∧ z v i < 256 ∧ (x_ushr v (jI (24 - 8 * (i : Int)))) &&& 255 = jI (z v i) ∧ ((x_shr v (jI (24 - 8 * (i : Int)))).toInt8.toInt32).toInt8.toInt32 = jI (if z v i < 128 then z v i else z v i - 256) := by
  have key : ∀ (v : Int32) (i : Nat), ∃ z : Int, i < 4 → 0 ≤ z ∧ z < 256 ∧ (x_ushr v (jI (24 - 8 * (i : Int)))) &&& 255 = jI z ∧ ((x_shr v (jI (24 - 8 * (i : Int)))).toInt8.toInt32).toInt8.toInt32 = jI (if z < 128 then z else z - 256) := fun v i => by
    by_cases c : i < 4
    · obtain ⟨z, h1, h2, h3, h4⟩ := by_ v (24 - 8 * i) (by omega)
      have e : jI (24 - 8 * (i : Int)) = Int32.ofNat (24 - 8 * i) := by
        rcases (show i = 0 ∨ i = 1 ∨ i = 2 ∨ i = 3 by omega) with e | e | e | e <;> subst e <;> rfl
      rw [e]
      exact ⟨z, fun _ => ⟨h1, h2, h3, h4⟩⟩
    · exact ⟨0, fun h => absurd h c⟩
  exact ⟨fun v i => Classical.choose (key v i), fun v i => Classical.choose_spec (key v i)⟩
/-- n bytes more on the component's tape -/
def ad_ (x L : Nat) (f : Nat → Int) : Nat → XH → XH
  | 0, h => h
  | n + 1, h => x_i (x_i (ad_ x L f n h) (x + 2) (L + n) (jI (f n))) (x + 1) 1 (jI ((L + n + 1 : Nat) : Int))
theorem ad_n {x L n : Nat} {f : Nat → Int} {h : XH} {a : Nat} (h1 : a ≠ x + 1) (h2 : a ≠ x + 2) : (ad_ x L f n h).1 a = h.1 a := by
  induction n with
  | zero => rfl
  | succ n ih => exact (gi_n h1).trans ((gi_n h2).trans ih)
theorem ad_2 {x L n : Nat} {f : Nat → Int} {h : XH} : (ad_ x L f n h).2 = h.2 := by
  induction n with
  | zero => rfl
  | succ n ih => exact ih
theorem ad_l {x L n : Nat} {f : Nat → Int} {h : XH} (h0 : h.1 (x + 1) 1 = jI (L : Int)) : (ad_ x L f n h).1 (x + 1) 1 = jI ((L + n : Nat) : Int) := by
  cases n with
  | zero => exact h0
  | succ n => exact gi_s
theorem ad_k {x L n : Nat} {f : Nat → Int} {h : XH} {j : Nat} (hj : j ≠ 1) : (ad_ x L f n h).1 (x + 1) j = h.1 (x + 1) j := by
  induction n with
  | zero => rfl
  | succ n ih => exact (gi_k hj).trans ((gi_a (by omega)).trans ih)
theorem ad_o {x L n : Nat} {f : Nat → Int} {h : XH} {k : Nat} (hk : k < L) : (ad_ x L f n h).1 (x + 2) k = h.1 (x + 2) k := by
  induction n with
  | zero => rfl
  | succ n ih => exact (gi_a (by omega)).trans ((gi_k (by omega)).trans ih)
theorem ad_i {x L n : Nat} {f : Nat → Int} {h : XH} {k : Nat} (hk : k < n) : (ad_ x L f n h).1 (x + 2) (L + k) = jI (f k) := by
  induction n with
  | zero => omega
  | succ n ih =>
    refine (gi_a (by omega)).trans ?_
    by_cases e : k = n
    · subst e; exact gi_s
    · exact (gi_k (by omega)).trans (ih (by omega))
theorem c_addN {x L : Nat} {h : XH} {v : Int32} {f : Nat → Int} (hL : L + 4 ≤ 400) (h0 : h.1 (x + 1) 1 = jI (L : Int)) (hf : ∀ i : Nat, i < 4 → (x_ushr v (jI (24 - 8 * (i : Int)))) &&& 255 = jI (f i)) : f_X8_addNumber x h v = some (ad_ x L f 4 h) := by
  have el : ∀ i, (ad_ x L f i h).1 (x + 1) 1 = jI ((L + i : Nat) : Int) := fun i => ad_l h0
  exact x_up0 (P := fun m i => f_X8_addNumber_3 x m (ad_ x L f i h) v (jI (24 - 8 * (i : Int))) = some (ad_ x L f 4 h)) 4 (by omega) (fun m => by
    unfold f_X8_addNumber_3
    exact if_pos (by decide)) (fun m i hi ih => by
    have e8 : jI (24 - 8 * (i : Int)) + (-8) = jI (24 - 8 * ((i + 1 : Nat) : Int)) := by
      rcases (show i = 0 ∨ i = 1 ∨ i = 2 ∨ i = 3 by omega) with e | e | e | e <;> subst e <;> rfl
    have n0 : ¬ jI (24 - 8 * (i : Int)) < 0 := fun e => absurd ((jI_lt (by omega) (by omega) (by omega) (by omega)).mp (show jI (24 - 8 * (i : Int)) < jI 0 from e)) (by omega)
    have n4 : ¬ 400 ≤ jI ((L + i : Nat) : Int) := fun e => absurd ((jI_le (by omega) (by omega) (by omega) (by omega)).mp (show jI 400 ≤ jI ((L + i : Nat) : Int) from e)) (by omega)
    have tn : (jI ((L + i : Nat) : Int)).toNatClampNeg = L + i := by rw [jI_nat (by omega) (by omega), Int.toNat_natCast]
    have a1 : jI ((L + i : Nat) : Int) + 1 = jI ((L + i + 1 : Nat) : Int) := by
      rw [show (1 : Int32) = jI 1 from rfl, jI_add]
      rfl
    unfold f_X8_addNumber_3
    simp only [x_let]
    rw [if_neg n0, el i, if_neg n4, if_pos (jI_b (by omega) (by omega) (by omega)), tn, hf i hi, gi_n (by omega), el i, a1, e8]
    exact ih)
