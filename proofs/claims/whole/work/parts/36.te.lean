/-! ===== what a text tells ===== -/
def lI (z : Int) : Int64 := Int64.ofInt z
theorem lI_add (a b : Int) : lI a + lI b = lI (a + b) := (Int64.ofInt_add a b).symm
theorem lI_mul (a b : Int) : lI a * lI b = lI (a * b) := (Int64.ofInt_mul a b).symm
theorem lI_toInt {z : Int} (h1 : -9223372036854775808 ≤ z) (h2 : z < 9223372036854775808) : (lI z).toInt = z := Int64.toInt_ofInt_of_le h1 h2
theorem jI_l {z : Int} (h1 : -2147483648 ≤ z) (h2 : z < 2147483648) : (jI z).toInt64 = lI z := by
  rw [← Int64.toInt_inj, Int32.toInt_toInt64, jI_toInt h1 h2, lI_toInt (by omega) (by omega)]
theorem lI_j {z : Int} (h1 : -2147483648 ≤ z) (h2 : z < 2147483648) : (lI z).toInt32 = jI z := by
  unfold lI jI
  exact Int64.toInt32_ofInt
theorem lI_cmp {a b : Int} (a1 : -9223372036854775808 ≤ a) (a2 : a < 9223372036854775808) (b1 : -9223372036854775808 ≤ b) (b2 : b < 9223372036854775808) : lg_cmp (lI a) (lI b) = jI (if b < a then 1 else if a = b then 0 else -1) := by
  unfold lg_cmp
  have h1 : (lI a > lI b) ↔ b < a := by
    show lI b < lI a ↔ _
    rw [Int64.lt_iff_toInt_lt, lI_toInt a1 a2, lI_toInt b1 b2]
  have h2 : lI a = lI b ↔ a = b := by rw [← Int64.toInt_inj, lI_toInt a1 a2, lI_toInt b1 b2]
  by_cases c1 : b < a
  · rw [if_pos (h1.mpr c1), if_pos c1]; decide
  · rw [if_neg (fun q => c1 (h1.mp q)), if_neg c1]
    by_cases c2 : a = b
    · rw [if_pos (h2.mpr c2), if_pos c2]; decide
    · rw [if_neg (fun q => c2 (h2.mp q)), if_neg c2]; decide
def ml_ (w : Nat → Int) (b : Nat) (F : Int → Int32) (i : Nat) : Int32 := if w (b + 4 + 5 * i) = w (b + 5 + 5 * i) then 1 else mt_ (er_ w b F (w (b + 5 + 5 * i) - w (b + 4 + 5 * i)).toNat (w (b + 4 + 5 * i)).toNat [])
def vl_ (w : Nat → Int) (b : Nat) (g : Int → Int) (i : Nat) : Int := if ml_ w b (fun s => jI (g s)) i = 0 then 0 else (if w (b + 1 + 5 * i) = 0 then w (b + 2 + 5 * i) else -(w (b + 2 + 5 * i))) * (if w (b + 3 + 5 * i) < 0 then 1 else g (w (b + 3 + 5 * i)))
def tl_ (w : Nat → Int) (b : Nat) (g : Int → Int) : Int := sm_ (w b).toNat (vl_ w b g)
/-- facts that may be: numbers up to 120000, the tags truths -/
def gk_ (ru : Bool) (g : Int → Int) : Prop := (∀ s, 0 ≤ s → s < 10 → (ru = true → s = 8 ∨ s < 4) → 0 ≤ g s ∧ g s ≤ 120000) ∧ (g 8 = 0 ∨ g 8 = 1) ∧ (ru = false → g 9 = 0 ∨ g 9 = 1)
theorem vl_b {w : Nat → Int} {b i : Nat} {ru : Bool} {g : Int → Int} (hl : WLn w b ru i) (hg : gk_ ru g) : -119880000 ≤ vl_ w b g i ∧ vl_ w b g i ≤ 119880000 := by
  obtain ⟨l1, l2, l3, l4, l5, l6, l7, l8, l9⟩ := hl
  unfold vl_
  split
  · omega
  · have hf : 0 ≤ (if w (b + 3 + 5 * i) < 0 then 1 else g (w (b + 3 + 5 * i))) ∧ (if w (b + 3 + 5 * i) < 0 then 1 else g (w (b + 3 + 5 * i))) ≤ 120000 := by
      split
      · omega
      · have h48 : (if ru then (4 : Int) else 8) ≤ 8 := by split <;> omega
        exact hg.1 _ (by omega) (by omega) (fun hru => Or.inr (by rw [hru] at l5; simpa using l5))
    generalize (if w (b + 3 + 5 * i) < 0 then 1 else g (w (b + 3 + 5 * i))) = f at hf ⊢
    have hm : 0 ≤ w (b + 2 + 5 * i) * f ∧ w (b + 2 + 5 * i) * f ≤ 999 * 120000 := ⟨Int.mul_nonneg l2 hf.1, Int.mul_le_mul l3 hf.2 hf.1 (by omega)⟩
    split
    · omega
    · rw [Int.neg_mul]; omega
theorem tl_b {w : Nat → Int} {b n : Nat} {ru : Bool} {g : Int → Int} (hx : WTx w b ru) (hg : gk_ ru g) (hn : (n : Int) ≤ w b) : -1198800000 ≤ sm_ n (vl_ w b g) ∧ sm_ n (vl_ w b g) ≤ 1198800000 := by
  have h10 := hx.2.1
  have := sm_b (n := n) (f := vl_ w b g) (lo := -119880000) (hi := 119880000) (fun i hi => vl_b (hx.2.2.1 i (by omega)) hg)
  omega
/-- the facts stand in the component's row -/
def fx_ (x : Nat) (h : XH) (ru : Bool) (g : Int → Int) : Prop := ∀ s : Int, 0 ≤ s → s < 10 → (ru = true → s = 8 ∨ s < 4) → h.1 (x + 44) (if ru = true ∧ s = 8 then 4 else s).toNat = jI (g s)
theorem c_isMet {x r b i : Nat} {K : XK} {h : XH} {w : Nat → Int} {ru : Bool} {g : Int → Int} (c : CTx x K h r w b ru) (hx : WTx w b ru) (hi : (i : Int) < w b) (hf : fx_ x h ru g) (hg : gk_ ru g) :
    ∃ h2, f_X9_isMet K x h (some r) (jI (w (b + 4 + 5 * i))) (jI (w (b + 5 + 5 * i))) = some (ml_ w b (fun s => jI (g s)) i, h2) ∧ (∀ a, a ≠ x + 45 → h2.1 a = h.1 a) ∧ h2.2 = h.2 := by
  obtain ⟨l1, l2, l3, l4, l5, l6, l7, l8, l9⟩ := hx.2.2.1 i hi
  have hto := (c.2.2.2.2.2.2.2.1 i hi).2.2.2
  have hG : (jI (g 8) = 0 ∨ jI (g 8) = 1) ∧ (ru = false → jI (g 9) = 0 ∨ jI (g 9) = 1) := by
    refine ⟨?_, fun hr => ?_⟩
    · rcases hg.2.1 with q | q <;> rw [q]
      · exact Or.inl (by decide)
      · exact Or.inr (by decide)
    · rcases hg.2.2 hr with q | q <;> rw [q]
      · exact Or.inl (by decide)
      · exact Or.inr (by decide)
  unfold ml_
  by_cases c1 : w (b + 4 + 5 * i) = w (b + 5 + 5 * i)
  · rw [if_pos c1]
    refine ⟨h, ?_, fun _ _ => rfl, rfl⟩
    rw [f_X9_isMet, show x_FU = 99999 + 1 from rfl, f_X9_isMet_6, if_pos (by rw [c1]; exact of_eq_true (jleT (by omega) (by omega) (by omega))), f_X9_isMet_310, if_pos rfl, f_X9_isMet_324]
  · rw [if_neg c1]
    have ht := l9.resolve_left c1
    obtain ⟨h2, g1, g2, g3⟩ := c_met (F := fun s => jI (g s)) (e := (w (b + 5 + 5 * i)).toNat) c (by omega) hf hG (w (b + 5 + 5 * i) - w (b + 4 + 5 * i)).toNat (w (b + 4 + 5 * i)).toNat x_FU (by omega) (by show _ < 100000; omega) h [] [] (fun _ _ => rfl) rfl trivial trivial (by decide) ht
    refine ⟨h2, ?_, g2, g3⟩
    rw [f_X9_isMet]
    rw [show (((w (b + 5 + 5 * i)).toNat : Nat) : Int) = w (b + 5 + 5 * i) by omega, show (((w (b + 4 + 5 * i)).toNat : Nat) : Int) = w (b + 4 + 5 * i) by omega] at g1
    exact g1
theorem c_tell {x r b : Nat} {K : XK} {h : XH} {w : Nat → Int} {ru : Bool} {g : Int → Int} (c : CTx x K h r w b ru) (hx : WTx w b ru) (hf : fx_ x h ru g) (hg : gk_ ru g) :
    ∃ h2, f_X9_tell K x h (some r) = some (lI (tl_ w b g), h2) ∧ (∀ a, a ≠ x + 45 → h2.1 a = h.1 a) ∧ h2.2 = h.2 := by
  obtain ⟨c1, c2, c3, c4, c5, c6, c7, c8, c9⟩ := id c
  have h10 := hx.2.1
  have h0 := hx.1
  have key := x_up0 (P := fun m i => ∀ (h1 : XH) (fr : Int), (∀ a, a ≠ x + 45 → h1.1 a = h.1 a) → h1.2 = h.2 → ((i : Int) < w b → fr = w (b + 4 + 5 * i)) → ∃ h2, f_X9_tell_14 K x m h1 r (lI (sm_ i (vl_ w b g))) (jI fr) (jI (i : Int)) = some (lI (sm_ (w b).toNat (vl_ w b g)), h2) ∧ (∀ a, a ≠ x + 45 → h2.1 a = h.1 a) ∧ h2.2 = h.2) (w b).toNat (by omega) (fun m h1 fr s1 s2 hfr => by
    refine ⟨h1, ?_, s1, s2⟩
    rw [f_X9_tell_14, c3]
    rw [if_pos (by show nI (w b).toNat ≤ _; rw [jI_nI]; exact of_eq_true (jleT (by omega) (by omega) (by omega)))]) (fun m i hi ih => by
    intro h1 fr s1 s2 hfr
    have hiw : (i : Int) < w b := by omega
    have hfr := hfr hiw
    subst hfr
    obtain ⟨l1, l2, l3, l4, l5, l6, l7, l8, l9⟩ := hx.2.2.1 i hiw
    have hvb := vl_b (hx.2.2.1 i hiw) hg
    have hsb := tl_b (n := i) hx hg (by omega)
    have ch := c.c (K' := K) (h' := h1) (w' := w) ⟨h0, h10⟩ (fun _ _ _ => rfl) (fun a q1 q2 => s1 a (by omega)) (fun _ _ _ => rfl)
    have hf1 : fx_ x h1 ru g := fun s q1 q2 q3 => by rw [s1 _ (by omega)]; exact hf s q1 q2 q3
    obtain ⟨h2, m1, m2, m3⟩ := c_isMet ch hx hiw hf1 hg
    have s3 : ∀ a, a ≠ x + 45 → h2.1 a = h.1 a := fun a ha => (m2 a ha).trans (s1 a ha)
    obtain ⟨k1, k2, k3, k4⟩ := c8 i hiw
    have n1 : (jI (i : Int)).toNatClampNeg = i := nat_ (by omega)
    have bb : x_b (jI (i : Int)) (w b).toNat = true := jI_b (by omega) (by omega) (by omega)
    have d0 : jI (i : Int) + 1 = jI ((i + 1 : Nat) : Int) := by rw [l1_, jI_add]; rfl
    have hnx : ((i + 1 : Nat) : Int) < w b → w (b + 5 + 5 * i) = w (b + 4 + 5 * (i + 1)) := fun q => by
      rw [show b + 4 + 5 * (i + 1) = b + 9 + 5 * i by omega]
      exact (hx.2.2.2.2 i (by omega)).symm
    obtain ⟨h3, r1, r2, r3⟩ := ih h2 (w (b + 5 + 5 * i)) s3 (m3.trans s2) hnx
    refine ⟨h3, ?_, r2, r3⟩
    rw [← r1, f_X9_tell_14]
    generalize f_X9_tell_14 K x m = kf
    have e3 : h1.1 (r + 3) i = jI (w (b + 5 + 5 * i)) := by rw [s1 _ (by omega)]; exact k3
    have e2 : h2.1 (r + 2) i = jI (w (b + 3 + 5 * i)) := by rw [s3 _ (by omega)]; exact k2
    have e1 : h2.1 (r + 1) i = jI (if w (b + 1 + 5 * i) = 0 then w (b + 2 + 5 * i) else -(w (b + 2 + 5 * i))) := by rw [s3 _ (by omega)]; exact k1
    rw [c3, c4, c5]
    rw [if_neg (by show ¬ nI (w b).toNat ≤ _; rw [jI_nI]; exact of_eq_false (jleF (by omega) (by omega) (by omega))), if_pos bb, xl_, n1, e3, m1, Option.bind_some]
    rw [sm_s]
    by_cases cm : ml_ w b (fun s => jI (g s)) i = 0
    · have hv0 : vl_ w b g i = 0 := by unfold vl_; rw [if_pos cm]
      rw [if_pos cm, f_X9_tell_93, d0, hv0, Int.add_zero]
    · rw [if_neg cm, if_pos bb, xl_, e2, if_pos bb, e1]
      have hab : -999 ≤ (if w (b + 1 + 5 * i) = 0 then w (b + 2 + 5 * i) else -(w (b + 2 + 5 * i))) ∧ (if w (b + 1 + 5 * i) = 0 then w (b + 2 + 5 * i) else -(w (b + 2 + 5 * i))) ≤ 999 := by split <;> omega
      have hv : vl_ w b g i = (if w (b + 1 + 5 * i) = 0 then w (b + 2 + 5 * i) else -(w (b + 2 + 5 * i))) * (if w (b + 3 + 5 * i) < 0 then 1 else g (w (b + 3 + 5 * i))) := by unfold vl_; rw [if_neg cm]
      generalize (if w (b + 1 + 5 * i) = 0 then w (b + 2 + 5 * i) else -(w (b + 2 + 5 * i))) = am at hab hv ⊢
      by_cases cf : w (b + 3 + 5 * i) < 0
      · rw [if_pos cf] at hv
        rw [if_pos (by rw [jL.1]; exact of_eq_true (jltT (by omega) (by omega) (by omega))), f_X9_tell_78, f_X9_tell_89, f_X9_tell_93, d0, l1_, jI_l (by omega) (by omega), jI_l (by omega) (by omega), lI_mul, lI_add, hv]
      · rw [if_neg cf] at hv
        have h48 : (if ru then (4 : Int) else 8) ≤ 8 := by split <;> omega
        have hru : ru = true → w (b + 3 + 5 * i) = 8 ∨ w (b + 3 + 5 * i) < 4 := fun hr => Or.inr (by rw [hr] at l5; simpa using l5)
        have hgb := hg.1 (w (b + 3 + 5 * i)) (by omega) (by omega) hru
        have hfg := hf1 (w (b + 3 + 5 * i)) (by omega) (by omega) hru
        rw [if_neg (by omega)] at hfg
        have hfg2 : h2.1 (x + 44) (w (b + 3 + 5 * i)).toNat = jI (g (w (b + 3 + 5 * i))) := by rw [m2 _ (by omega)]; exact hfg
        rw [if_neg (by rw [jL.1]; exact of_eq_false (jltF (by omega) (by omega) (by omega))), if_pos (by rw [show (10 : Int32) = jI 10 by decide]; exact of_eq_true (jltT (by omega) (by omega) (by omega))), if_pos (jI_b (by omega) (by omega) (by omega)), jI_nat (by omega) (by omega), hfg2, f_X9_tell_89, f_X9_tell_93, d0, jI_l (by omega) (by omega), jI_l (by omega) (by omega), lI_mul, lI_add, hv])
  obtain ⟨h2, g1, g2, g3⟩ := key h 0 (fun _ _ => rfl) rfl (fun q => (hx.2.2.2.1 (by omega)).symm)
  refine ⟨h2, ?_, g2, g3⟩
  rw [f_X9_tell, x_opt]
  exact g1
/-- 0 to 100 -/
def cl_ (z : Int) : Int := if z < 0 then 0 else if 100 < z then 100 else z
theorem cl_b (z : Int) : 0 ≤ cl_ z ∧ cl_ z ≤ 100 := by unfold cl_; split <;> (try split) <;> omega
theorem c_held {x r b : Nat} {K : XK} {h : XH} {w : Nat → Int} {ru : Bool} {g : Int → Int} (c : CTx x K h r w b ru) (hx : WTx w b ru) (hf : fx_ x h ru g) (hg : gk_ ru g) :
    ∃ h2, f_X9_heldBy K x h (some r) = some (jI (cl_ (tl_ w b g)), h2) ∧ (∀ a, a ≠ x + 45 → h2.1 a = h.1 a) ∧ h2.2 = h.2 := by
  obtain ⟨h2, g1, g2, g3⟩ := c_tell c hx hf hg
  have hb := tl_b (n := (w b).toNat) hx hg (by have := hx.1; omega)
  have hb : -1198800000 ≤ tl_ w b g ∧ tl_ w b g ≤ 1198800000 := hb
  refine ⟨h2, ?_, g2, g3⟩
  rw [f_X9_heldBy, g1, Option.bind_some]
  have l0 : (0 : Int64) = lI 0 := by decide
  have l100 : (100 : Int64) = lI 100 := by decide
  rw [l0, l100, lI_cmp (by omega) (by omega) (by omega) (by omega), lI_cmp (by omega) (by omega) (by omega) (by omega), lI_j (by omega) (by omega)]
  unfold cl_
  generalize tl_ w b g = z at hb ⊢
  by_cases k1 : z < 0
  · rw [if_neg (show ¬ (0 : Int) < z by omega), if_neg (show ¬ z = 0 by omega), if_pos k1, if_neg (by decide)]
    rfl
  · have e1 : (0 : Int32) ≤ jI (if 0 < z then 1 else if z = 0 then 0 else -1) := by
      by_cases k2 : 0 < z
      · rw [if_pos k2]; decide
      · rw [if_neg k2, if_pos (by omega)]; decide
    rw [if_pos e1, if_neg k1]
    by_cases k3 : 100 < z
    · rw [if_pos k3, if_pos k3, if_neg (by decide)]
      rfl
    · rw [if_neg k3, if_neg k3]
      have e2 : jI (if z = 100 then 0 else -1) ≤ (0 : Int32) := by
        by_cases k4 : z = 100
        · rw [if_pos k4]; decide
        · rw [if_neg k4]; decide
      rw [if_pos e2]
