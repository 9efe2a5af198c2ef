/-! ===== PURE LEVEL: no machine from here on. Numbers ===== -/
def jI (z : Int) : Int32 := Int32.ofInt z
theorem jI_of (v : Int32) : v = jI v.toInt := (Int32.ofInt_toInt v).symm
theorem jI_ex (v : Int32) : ∃ z : Int, -2147483648 ≤ z ∧ z < 2147483648 ∧ v = jI z := ⟨v.toInt, v.le_toInt, v.toInt_lt, jI_of v⟩
theorem jI_toInt {z : Int} (h1 : -2147483648 ≤ z) (h2 : z < 2147483648) : (jI z).toInt = z := Int32.toInt_ofInt_of_le h1 h2
theorem jI_add (a b : Int) : jI a + jI b = jI (a + b) := (Int32.ofInt_add a b).symm
theorem jI_sub (a b : Int) : jI a - jI b = jI (a - b) := (Int32.ofInt_sub a b).symm
theorem jI_mul (a b : Int) : jI a * jI b = jI (a * b) := (Int32.ofInt_mul a b).symm
theorem jI_neg (a : Int) : -jI a = jI (-a) := (Int32.ofInt_neg a).symm
theorem jI_lit (n : Nat) : (OfNat.ofNat n : Int32) = jI (n : Int) := by
  show Int32.ofNat n = Int32.ofInt (n : Int)
  exact Int32.ofInt_eq_ofNat.symm
theorem jI_nI (n : Nat) : nI n = jI (n : Int) := Int32.ofInt_eq_ofNat.symm
theorem jI_lt {a b : Int} (a1 : -2147483648 ≤ a) (a2 : a < 2147483648) (b1 : -2147483648 ≤ b) (b2 : b < 2147483648) : jI a < jI b ↔ a < b := by
  rw [Int32.lt_iff_toInt_lt, jI_toInt a1 a2, jI_toInt b1 b2]
theorem jI_le {a b : Int} (a1 : -2147483648 ≤ a) (a2 : a < 2147483648) (b1 : -2147483648 ≤ b) (b2 : b < 2147483648) : jI a ≤ jI b ↔ a ≤ b := by
  rw [Int32.le_iff_toInt_le, jI_toInt a1 a2, jI_toInt b1 b2]
theorem jI_eq {a b : Int} (a1 : -2147483648 ≤ a) (a2 : a < 2147483648) (b1 : -2147483648 ≤ b) (b2 : b < 2147483648) : jI a = jI b ↔ a = b := by
  rw [← Int32.toInt_inj, jI_toInt a1 a2, jI_toInt b1 b2]
theorem jI_nat {a : Int} (a1 : -2147483648 ≤ a) (a2 : a < 2147483648) : (jI a).toNatClampNeg = a.toNat := by
  rw [← Int32.toNat_toInt, jI_toInt a1 a2]
theorem jI_b {a : Int} {n : Nat} (a1 : 0 ≤ a) (a2 : a < n) (hn : n < 2147483648) : x_b (jI a) n = true := by
  have h0 : ¬ jI a < 0 := by rw [jI_lit 0, jI_lt (by omega) (by omega) (by omega) (by omega)]; omega
  have h1 : ¬ n ≤ (jI a).toNatClampNeg := by rw [jI_nat (by omega) (by omega)]; omega
  simp [x_b, h0, h1]
theorem jI_div {a b : Int} (a1 : 0 ≤ a) (a2 : a < 2147483648) (b1 : 0 < b) (b2 : b < 2147483648) : jI a / jI b = jI (a / b) := by
  have hq : a / b ≤ a := Int.ediv_le_self b a1
  have h0 : 0 ≤ a / b := Int.ediv_nonneg a1 (by omega)
  rw [← Int32.toInt_inj, Int32.toInt_div_of_ne_right _ _ (fun e => by
    have := congrArg Int32.toInt e
    rw [jI_toInt (by omega) b2] at this
    have h9 : (-1 : Int32).toInt = -1 := by decide
    omega), jI_toInt (by omega) a2, jI_toInt (by omega) b2, jI_toInt (by omega) (by omega)]
  exact Int.tdiv_eq_ediv_of_nonneg a1
theorem jI_rem {a b : Int} (a1 : 0 ≤ a) (a2 : a < 2147483648) (b1 : 0 < b) (b2 : b < 2147483648) : x_rem (jI a) (jI b) = jI (a % b) := by
  show jI a - jI a / jI b * jI b = _
  rw [jI_div a1 a2 b1 b2, jI_mul, jI_sub, Int.emod_def, Int.mul_comm]
/-- all of them, for simp -/
theorem jJ : (∀ a b : Int, jI a + jI b = jI (a + b)) ∧ (∀ a b : Int, jI a - jI b = jI (a - b)) ∧ (∀ a b : Int, jI a * jI b = jI (a * b)) ∧ (∀ a : Int, -jI a = jI (-a)) := ⟨jI_add, jI_sub, jI_mul, jI_neg⟩
/-! ===== loops: by how many rounds are left ===== -/
theorem x_up {P : Nat → Nat → Prop} (n : Nat) (base : ∀ m, P (m + 1) n) (step : ∀ m i, i < n → P m (i + 1) → P (m + 1) i) : ∀ k i m, i + k = n → k < m → P m i := by
  intro k
  induction k with
  | zero =>
    intro i m hi hm
    obtain ⟨m', rfl⟩ : ∃ m', m = m' + 1 := ⟨m - 1, by omega⟩
    have : i = n := by omega
    subst this
    exact base m'
  | succ k ih =>
    intro i m hi hm
    obtain ⟨m', rfl⟩ : ∃ m', m = m' + 1 := ⟨m - 1, by omega⟩
    exact step m' i (by omega) (ih (i + 1) m' (by omega) (by omega))
theorem x_up0 {P : Nat → Nat → Prop} (n : Nat) (hn : n < 100000) (base : ∀ m, P (m + 1) n) (step : ∀ m i, i < n → P m (i + 1) → P (m + 1) i) : P x_FU 0 := x_up n base step n 0 x_FU (by omega) hn
/-- sums -/
def sm_ (n : Nat) (f : Nat → Int) : Int := match n with
  | 0 => 0
  | n + 1 => sm_ n f + f n
theorem sm_s (n : Nat) (f : Nat → Int) : sm_ (n + 1) f = sm_ n f + f n := rfl
theorem sm_0 (f : Nat → Int) : sm_ 0 f = 0 := rfl
theorem sm_b {n : Nat} {f : Nat → Int} {lo hi : Int} (h : ∀ i, i < n → lo ≤ f i ∧ f i ≤ hi) : n * lo ≤ sm_ n f ∧ sm_ n f ≤ n * hi := by
  induction n with
  | zero => simp [sm_]
  | succ n ih =>
    have h1 := ih (fun i hi => h i (by omega))
    have h2 := h n (by omega)
    rw [sm_s]
    have e1 : ((n + 1 : Nat) : Int) * lo = n * lo + lo := by rw [Int.natCast_add, Int.add_mul]; simp
    have e2 : ((n + 1 : Nat) : Int) * hi = n * hi + hi := by rw [Int.natCast_add, Int.add_mul]; simp
    omega
theorem sm_c {n : Nat} {f g : Nat → Int} (h : ∀ i, i < n → f i = g i) : sm_ n f = sm_ n g := by
  induction n with
  | zero => rfl
  | succ n ih => rw [sm_s, sm_s, ih (fun i hi => h i (by omega)), h n (by omega)]
theorem sm_p {n : Nat} {f g : Nat → Int} : sm_ n (fun i => f i + g i) = sm_ n f + sm_ n g := by
  induction n with
  | zero => rfl
  | succ n ih => rw [sm_s, sm_s, sm_s, ih]; omega
theorem sm_z {n : Nat} : sm_ n (fun _ => 0) = 0 := by
  induction n with
  | zero => rfl
  | succ n ih => rw [sm_s, ih]; rfl
/-! ===== the heap ===== -/
theorem gi_ (h : XH) (a j : Nat) (v : Int32) (b k : Nat) : (x_i h a j v).1 b k = if b = a ∧ k = j then v else h.1 b k := rfl
theorem gi_a {h : XH} {a j : Nat} {v : Int32} {b k : Nat} (hb : b ≠ a) : (x_i h a j v).1 b k = h.1 b k := by simp [x_i, hb]
theorem gi_k {h : XH} {a j : Nat} {v : Int32} {b k : Nat} (hk : k ≠ j) : (x_i h a j v).1 b k = h.1 b k := by simp [x_i, hk]
theorem gi_s {h : XH} {a j : Nat} {v : Int32} : (x_i h a j v).1 a j = v := by simp [x_i]
theorem gi_2 {h : XH} {a j : Nat} {v : Int32} : (x_i h a j v).2 = h.2 := rfl
