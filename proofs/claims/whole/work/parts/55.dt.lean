theorem dt_b {gh : Nat} {x : Nat} {K : XK} {h : XH} (I : Inv gh x K h) {v : Int32} {c : Int} (n : Nat) (hn : (n : Int) ≤ wd x h 0) : 0 ≤ sm_ n (dl_ (wd x h) v c) ∧ sm_ n (dl_ (wd x h) v c) ≤ 120 := by
  have h0 := I.w0
  have := sm_b (n := n) (f := dl_ (wd x h) v c) (lo := 0) (hi := 20) (fun i hi => dl_b (by have := I.dr (j := (i : Int)) ⟨by omega, by omega⟩; rw [Int.toNat_natCast] at this; exact this))
  omega
theorem c_dt {gh : Nat} {x : Nat} {K : XK} {h : XH} (I : Inv gh x K h) {v : Int32} {c : Int} (hc : 0 ≤ c ∧ c ≤ 9) : f_X7_doorsThatLook (x + 9) h (jI c) v = some (jI (sm_ (wd x h 0).toNat (dl_ (wd x h) v c))) := by
  have h0 := I.w0
  have e1 := I.2.1.1.1
  exact x_up0 (P := fun m j => f_X7_doorsThatLook_5 (x + 9) h m (jI c) v (jI (sm_ j (dl_ (wd x h) v c))) (jI (j : Int)) = some (jI (sm_ (wd x h 0).toNat (dl_ (wd x h) v c)))) (wd x h 0).toNat (by omega) (fun m => by
    simp (disch := omega) only [f_X7_doorsThatLook_5, jL, jJ, jI_lt, jI_le, jI_eq, jI_nat, jBt, jBo, x_let, if_pos, if_neg, if_true, Option.bind_some, and_self, true_and, and_true, Int.toNat_zero, Int.toNat_natCast, isb0, isb1, e1]) (fun m j hj ih => by
    have hb := dt_b I (v := v) (c := c) j (by omega)
    have cd := c_dl I (k5 := f_X7_doorsThatLook_5 (x + 9) h m) (v := v) (c := c) (s := sm_ j (dl_ (wd x h) v c)) (j := j) (by omega) hc (by omega)
    have n0 : ¬ h.1 (x + 9) 1 ≤ jI (j : Int) := fun e => by
      rw [e1] at e
      exact absurd ((jI_le (by omega) (by omega) (by omega) (by omega)).mp e) (by omega)
    unfold f_X7_doorsThatLook_5
    rw [if_neg n0]
    exact cd.trans ih)
theorem r_dl {gh : Nat} {x : Nat} {K : XK} {h : XH} (I : Inv gh x K h) {k13 : XH → Int32 → Int32 → Int32 → Int32 → Int32 → Option (Int32 × XH)} {k26 : XH → Int32 → Int32 → Int32 → Int32 → Int32 → Int32 → Int32 → Option (Int32 × XH)} {v v2 v3 v4 : Int32} {c s : Int} {j : Nat} (hj : (j : Int) < wd x h 0) (hc : 0 ≤ c ∧ c ≤ 9) (hs : 0 ≤ s ∧ s ≤ 1000) :
    f_X12_unlike_40 k13 k26 x x_FU h v v2 v3 v4 (jI c) (jI s) (jI (j : Int)) (jI 0) = k26 h v v2 v3 v4 (jI c) (jI (s + dl_ (wd x h) v c j)) (jI ((j : Int) + 1)) := by
  have h0 := I.w0
  have hd := I.dr (j := (j : Int)) ⟨by omega, hj⟩
  have ed := r_drs I (z := (j : Int)) ⟨by omega, hj⟩
  rw [Int.toNat_natCast] at hd ed
  unfold dl_
  by_cases b : ((x_shr v (jI (j : Int))) &&& 1) = 1
  · rw [if_pos b]
    have b' : ((x_shr v (jI (j : Int))) &&& jI 1) = jI 1 := b
    generalize hf : (fun d : Nat => if lk_ (wd x h) (j : Int) (d : Int) = c then (1 : Int) else 0) = f
    have hb : ∀ n, 0 ≤ sm_ n f ∧ sm_ n f ≤ n := fun n => by
      have := sm_b (n := n) (f := f) (lo := 0) (hi := 1) (fun i hi => by rw [← hf]; show 0 ≤ (if _ then (1 : Int) else 0) ∧ (if _ then (1 : Int) else 0) ≤ 1; split <;> omega)
      omega
    have key := x_up0 (P := fun m i => f_X12_unlike_40 k13 k26 x m h v v2 v3 v4 (jI c) (jI (s + sm_ i f)) (jI (j : Int)) (jI (i : Int)) = k26 h v v2 v3 v4 (jI c) (jI (s + sm_ (wd x h (164 + 21 * j)).toNat f)) (jI ((j : Int) + 1))) (wd x h (164 + 21 * j)).toNat (by omega) (fun m => by
      have := hb (wd x h (164 + 21 * j)).toNat
      simp (disch := omega) only [f_X12_unlike_40, f_X12_unlike_90, jL, jJ, jI_lt, jI_le, jI_eq, jI_nat, jBt, jBo, x_let, if_pos, if_neg, if_true, Option.bind_some, and_self, true_and, and_true, Int.toNat_zero, Int.toNat_natCast, isb0, isb1, ed]) (fun m i hi ih => by
      have hbi := hb i
      have hl := r_look I (j := (j : Int)) (d := (i : Int)) ⟨by omega, hj⟩ (by omega)
      have hlb := I.1.2.2.1.lk (j := (j : Int)) (d := (i : Int)) ⟨by omega, hj⟩ (by omega)
      have hfi : f i = if lk_ (wd x h) (j : Int) (i : Int) = c then (1 : Int) else 0 := by rw [← hf]
      by_cases e : lk_ (wd x h) (j : Int) (i : Int) = c
      · rw [if_pos e] at hfi
        simp only [sm_s, hfi, Int.natCast_add, Int.natCast_one] at ih
        rw [show s + (sm_ i f + 1) = s + sm_ i f + 1 by omega] at ih
        simp (disch := omega) only [f_X12_unlike_40, jL, jJ, jI_lt, jI_le, jI_eq, jI_nat, jBt, jBo, x_let, if_pos, if_neg, if_true, Option.bind_some, and_self, true_and, and_true, Int.toNat_zero, Int.toNat_natCast, isb0, isb1, ed, b', hl, ih]
      · rw [if_neg e] at hfi
        simp only [sm_s, hfi, Int.natCast_add, Int.natCast_one, Int.add_zero] at ih
        simp (disch := omega) only [f_X12_unlike_40, jL, jJ, jI_lt, jI_le, jI_eq, jI_nat, jBt, jBo, x_let, if_pos, if_neg, if_true, Option.bind_some, and_self, true_and, and_true, Int.toNat_zero, Int.toNat_natCast, isb0, isb1, ed, b', hl, ih, Int.add_zero])
    simp only [sm_0, Int.add_zero] at key
    exact key
  · rw [if_neg b, Int.add_zero]
    have b' : ¬ ((x_shr v (jI (j : Int))) &&& jI 1) = jI 1 := b
    exact x_up0 (P := fun m _ => f_X12_unlike_40 k13 k26 x m h v v2 v3 v4 (jI c) (jI s) (jI (j : Int)) (jI 0) = k26 h v v2 v3 v4 (jI c) (jI s) (jI ((j : Int) + 1))) 0 (by omega) (fun m => by
      simp (disch := omega) only [f_X12_unlike_40, f_X12_unlike_90, jL, jJ, jI_lt, jI_le, jI_eq, jI_nat, jBt, jBo, x_let, if_pos, if_neg, if_true, Option.bind_some, and_self, true_and, and_true, Int.toNat_zero, Int.toNat_natCast, isb0, isb1, ed, if_neg b']) (fun m i hi _ => absurd hi (by omega))
