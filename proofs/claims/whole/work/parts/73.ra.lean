/-! ===== rates ===== -/
def fd_ (v : Int32) : Int32 := if 0 ≤ (v ^^^ 100) then v / 100 else if v / 100 * 100 = v then v / 100 else v / 100 - 1
theorem fd_e (h : XH) (v : Int32) : f_J9_floorDiv_7cf53 h v 100 = some (fd_ v) := by
  unfold f_J9_floorDiv_7cf53 fd_ f_J9_floorDiv_7cf53_21
  rw [if_neg (by decide)]
  split
  · rfl
  · split <;> rfl
def wa_ (a g r : Int32) : Int32 := a + fd_ (r * (g - a))
theorem c_wa (h : XH) (a g r : Int32) : f_X11_weekAfter h a g r = some (wa_ a g r) := by
  unfold f_X11_weekAfter
  rw [fd_e, Option.bind_some]
  rfl
theorem r_wa (h : XH) (a g r : Int32) : f_X12_betters h a g r = some (wa_ a g r) := by
  unfold f_X12_betters
  rw [fd_e, Option.bind_some]
  rfl
def ab_ (v : Int32) : Int32 := if 0 ≤ v then v else -v
/-- week k is so from the one before it -/
def ok_ (w : Nat → Int) (g r : Int32) (k : Nat) : Bool := decide (ab_ (wa_ (jI (w (943 + k))) g r - jI (w (944 + k))) ≤ 1)
def ia_ (w : Nat → Int) (g r : Int32) : Nat → Nat → Bool
  | 0, _ => true
  | n + 1, k => ok_ w g r k && ia_ w g r n (k + 1)
theorem Inv.w5 {gh : Nat} {x : Nat} {K : XK} {h : XH} (I : Inv gh x K h) : 0 ≤ wd x h 5 ∧ wd x h 5 ≤ 20 := ⟨I.1.1.2.2.2.2.2.2.2.2.2.2.1, I.1.1.2.2.2.2.2.2.2.2.2.2.2.1⟩
theorem Inv.wk {gh : Nat} {x : Nat} {K : XK} {h : XH} (I : Inv gh x K h) {k : Nat} (hk : (k : Int) < wd x h 5) : h.1 (x + 18) k = jI (wd x h (944 + k)) := I.2.1.2.2.2.2.2.2.1 k hk
theorem c_isr {gh : Nat} {x : Nat} {K : XK} {h : XH} (I : Inv gh x K h) {g r : Int32} : f_X11_isRate x h r g = some (if ia_ (wd x h) g r ((wd x h 5).toNat - 1) 1 = true then 1 else 0) := by
  have w5 := I.w5
  have e15 : h.1 (x + 9) 15 = jI (wd x h 5) := I.2.1.1.2.2.2.2.2.2.2
  by_cases z : wd x h 5 ≤ 1
  · rw [show (wd x h 5).toNat - 1 = 0 by omega, if_pos (show ia_ (wd x h) g r 0 1 = true from rfl)]
    show f_X11_isRate_2 x h (99999 + 1) r g 1 = some 1
    unfold f_X11_isRate_2
    rw [e15, if_pos (show jI (wd x h 5) ≤ (1 : Int32) from (jI_le (b := 1) (by omega) (by omega) (by omega) (by omega)).mpr z)]
  · refine x_up0 (P := fun m n => f_X11_isRate_2 x h m r g (jI ((n : Int) + 1)) = some (if ia_ (wd x h) g r ((wd x h 5).toNat - 1 - n) (n + 1) = true then 1 else 0)) ((wd x h 5).toNat - 1) (by omega) (fun m => by
      unfold f_X11_isRate_2
      rw [e15, if_pos ((jI_le (by omega) (by omega) (by omega) (by omega)).mpr (by omega)), Nat.sub_self, if_pos (show ia_ (wd x h) g r 0 ((wd x h 5).toNat - 1 + 1) = true from rfl)]) (fun m n hn ih => by
      have k0 := I.wk (k := n) (by omega)
      have k1 := I.wk (k := n + 1) (by omega)
      rw [f_X11_isRate_2, e15, if_neg (fun e => absurd ((jI_le (by omega) (by omega) (by omega) (by omega)).mp e) (by omega)), show (1 : Int32) = jI 1 from rfl, jI_sub, show (n : Int) + 1 - 1 = n by omega, if_pos (jI_b (by omega) (by omega) (by omega)), nat_ (by omega), k0, c_wa, Option.bind_some, if_pos (jI_b (by omega) (by omega) (by omega)), jI_nat (by omega) (by omega), show ((n : Int) + 1).toNat = n + 1 by omega, k1, jI_add, show (wd x h 5).toNat - 1 - n = (wd x h 5).toNat - 1 - (n + 1) + 1 by omega]
      rw [show ((n + 1 : Nat) : Int) + 1 = (n : Int) + 1 + 1 by omega] at ih
      unfold ia_
      have eo : (f_J9_abs_0f7a4 h (wa_ (jI (wd x h (944 + n))) g r - jI (wd x h (944 + (n + 1)))) ≤ jI 1) ↔ ok_ (wd x h) g r (n + 1) = true := by
        unfold ok_
        rw [decide_eq_true_iff, show 943 + (n + 1) = 944 + n by omega]
        exact Iff.rfl
      by_cases c : ok_ (wd x h) g r (n + 1) = true
      · rw [if_pos (eo.mpr c), c, Bool.true_and]
        exact ih
      · have c' : ok_ (wd x h) g r (n + 1) = false := by simpa using c
        rw [if_neg (fun e => c (eo.mp e)), c', Bool.false_and]
        rfl)
