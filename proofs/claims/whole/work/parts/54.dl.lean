/-! ===== doors that look ===== -/
def dl_ (w : Nat → Int) (v : Int32) (c : Int) (j : Nat) : Int := if ((x_shr v (jI (j : Int))) &&& 1) = 1 then sm_ (w (164 + 21 * j)).toNat (fun d => if lk_ w (j : Int) (d : Int) = c then 1 else 0) else 0
theorem dl_b {w : Nat → Int} {v : Int32} {c : Int} {j : Nat} (h : 1 ≤ w (164 + 21 * j) ∧ w (164 + 21 * j) ≤ 20) : 0 ≤ dl_ w v c j ∧ dl_ w v c j ≤ 20 := by
  unfold dl_
  split
  · have := sm_b (n := (w (164 + 21 * j)).toNat) (f := fun d => if lk_ w (j : Int) (d : Int) = c then 1 else 0) (lo := 0) (hi := 1) (fun i hi => by split <;> omega)
    omega
  · omega
theorem c_dl {gh : Nat} {x : Nat} {K : XK} {h : XH} (I : Inv gh x K h) {k5 : Int32 → Int32 → Int32 → Int32 → Option Int32} {v : Int32} {c s : Int} {j : Nat} (hj : (j : Int) < wd x h 0) (hc : 0 ≤ c ∧ c ≤ 9) (hs : 0 ≤ s ∧ s ≤ 1000) :
    f_X7_doorsThatLook_17 k5 (x + 9) h x_FU (jI c) v (jI s) (jI (j : Int)) (jI 0) = k5 (jI c) v (jI (s + dl_ (wd x h) v c j)) (jI ((j : Int) + 1)) := by
  have h0 := I.w0
  have hd := I.dr (j := (j : Int)) ⟨by omega, hj⟩
  rw [Int.toNat_natCast] at hd
  have ed : h.1 (x + 9 + 2) j = jI (wd x h (164 + 21 * j)) := (I.2.1.2.2.1 j hj).1
  unfold dl_
  by_cases b : ((x_shr v (jI (j : Int))) &&& 1) = 1
  · rw [if_pos b]
    have b' : ((x_shr v (jI (j : Int))) &&& jI 1) = jI 1 := b
    generalize hf : (fun d : Nat => if lk_ (wd x h) (j : Int) (d : Int) = c then (1 : Int) else 0) = f
    have hb : ∀ n, 0 ≤ sm_ n f ∧ sm_ n f ≤ n := fun n => by
      have := sm_b (n := n) (f := f) (lo := 0) (hi := 1) (fun i hi => by rw [← hf]; show 0 ≤ (if _ then (1 : Int) else 0) ∧ (if _ then (1 : Int) else 0) ≤ 1; split <;> omega)
      omega
    have key := x_up0 (P := fun m i => f_X7_doorsThatLook_17 k5 (x + 9) h m (jI c) v (jI (s + sm_ i f)) (jI (j : Int)) (jI (i : Int)) = k5 (jI c) v (jI (s + sm_ (wd x h (164 + 21 * j)).toNat f)) (jI ((j : Int) + 1))) (wd x h (164 + 21 * j)).toNat (by omega) (fun m => by
      have := hb (wd x h (164 + 21 * j)).toNat
      simp (disch := omega) only [f_X7_doorsThatLook_17, f_X7_doorsThatLook_65, jL, jJ, jI_lt, jI_le, jI_eq, jI_nat, jBt, jBo, x_let, if_pos, if_neg, if_true, Option.bind_some, and_self, true_and, and_true, Int.toNat_zero, Int.toNat_natCast, isb0, isb1, ed]) (fun m i hi ih => by
      have hbi := hb i
      have hl := c_look I (j := (j : Int)) (d := (i : Int)) ⟨by omega, hj⟩ (by rw [Int.toNat_natCast]; omega)
      have hlb := I.1.2.2.1.lk (j := (j : Int)) (d := (i : Int)) ⟨by omega, hj⟩ (by omega)
      have hfi : f i = if lk_ (wd x h) (j : Int) (i : Int) = c then (1 : Int) else 0 := by rw [← hf]
      by_cases e : lk_ (wd x h) (j : Int) (i : Int) = c
      · rw [if_pos e] at hfi
        simp only [sm_s, hfi, Int.natCast_add, Int.natCast_one] at ih
        rw [show s + (sm_ i f + 1) = s + sm_ i f + 1 by omega] at ih
        simp (disch := omega) only [f_X7_doorsThatLook_17, jL, jJ, jI_lt, jI_le, jI_eq, jI_nat, jBt, jBo, x_let, if_pos, if_neg, if_true, Option.bind_some, and_self, true_and, and_true, Int.toNat_zero, Int.toNat_natCast, isb0, isb1, ed, b', hl, ih]
      · rw [if_neg e] at hfi
        simp only [sm_s, hfi, Int.natCast_add, Int.natCast_one, Int.add_zero] at ih
        simp (disch := omega) only [f_X7_doorsThatLook_17, jL, jJ, jI_lt, jI_le, jI_eq, jI_nat, jBt, jBo, x_let, if_pos, if_neg, if_true, Option.bind_some, and_self, true_and, and_true, Int.toNat_zero, Int.toNat_natCast, isb0, isb1, ed, b', hl, ih, Int.add_zero])
    simp only [sm_0, Int.add_zero] at key
    exact key
  · rw [if_neg b, Int.add_zero]
    have b' : ¬ ((x_shr v (jI (j : Int))) &&& jI 1) = jI 1 := b
    exact x_up0 (P := fun m _ => f_X7_doorsThatLook_17 k5 (x + 9) h m (jI c) v (jI s) (jI (j : Int)) (jI 0) = k5 (jI c) v (jI s) (jI ((j : Int) + 1))) 0 (by omega) (fun m => by
      simp (disch := omega) only [f_X7_doorsThatLook_17, f_X7_doorsThatLook_65, jL, jJ, jI_lt, jI_le, jI_eq, jI_nat, jBt, jBo, x_let, if_pos, if_neg, if_true, Option.bind_some, and_self, true_and, and_true, Int.toNat_zero, Int.toNat_natCast, isb0, isb1, ed, if_neg b']) (fun m i hi _ => absurd hi (by omega))
