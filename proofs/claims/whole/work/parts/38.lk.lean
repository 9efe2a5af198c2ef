/-! ===== looks, and what is like ===== -/
theorem WH.lk {w : Nat → Int} (hH : WH w) {j d : Int} (hj : 0 ≤ j ∧ j < w 0) (hd : 0 ≤ d ∧ d < 20) : 0 ≤ lk_ w j d ∧ lk_ w j d ≤ 9 := (hH j.toNat (by omega)).2.2 d.toNat (by omega)
theorem c_look {gh : Nat} {x : Nat} {K : XK} {h : XH} (I : Inv gh x K h) {j d : Int} (hj : 0 ≤ j ∧ j < wd x h 0) (hd : 0 ≤ d ∧ d < wd x h (164 + 21 * j.toNat)) : f_X7_lookOf (x + 9) h (jI j) (jI d) = some (jI (lk_ (wd x h) j d)) := by
  have h0 := I.w0
  have h2 := I.dr hj
  have e := (I.2.1.2.2.1 j.toNat (by omega)).2 d.toNat (by omega)
  have t : (j * 20 + d).toNat = 20 * j.toNat + d.toNat := by omega
  simp (disch := omega) only [f_X7_lookOf, jL, jJ, jI_lt, jI_le, jI_eq, jI_nat, jBt, jBo, x_let, if_pos, if_neg, if_true, Option.bind_some, wd_j, and_self, true_and, and_true, Int.toNat_zero, Int.toNat_natCast, isb0, isb1, t, e, lk_]
theorem r_look {gh : Nat} {x : Nat} {K : XK} {h : XH} (I : Inv gh x K h) {j d : Int} (hj : 0 ≤ j ∧ j < wd x h 0) (hd : 0 ≤ d ∧ d < 20) : f_X12_lookOf x h (jI j) (jI d) = some (jI (lk_ (wd x h) j d)) := by
  have h0 := I.w0
  have t : (164 + 21 * j + 1 + d).toNat = 165 + 21 * j.toNat + d.toNat := by omega
  simp (disch := omega) only [f_X12_lookOf, jL, jJ, jI_lt, jI_le, jI_eq, jI_nat, jBt, jBo, x_let, if_pos, if_neg, if_true, Option.bind_some, wd_j, and_self, true_and, and_true, Int.toNat_zero, Int.toNat_natCast, isb0, isb1, t, lk_]
theorem like_b {w : Nat → Int} {n : Nat} {hs fr pl : Int} (hn : n ≤ 52) : 0 ≤ sm_ n (fun k => if (k : Int) ≠ pl ∧ lk_ w hs (fr + k) = lk_ w hs (fr + pl) then 1 else 0) ∧ sm_ n (fun k => if (k : Int) ≠ pl ∧ lk_ w hs (fr + k) = lk_ w hs (fr + pl) then 1 else 0) ≤ 52 := by
  have := sm_b (n := n) (f := fun k => if (k : Int) ≠ pl ∧ lk_ w hs (fr + k) = lk_ w hs (fr + pl) then 1 else 0) (lo := 0) (hi := 1) (fun i hi => by split <;> omega)
  omega
theorem c_like {gh : Nat} {x : Nat} {K : XK} {h : XH} (I : Inv gh x K h) {p : Nat} (hp : (p : Int) < wd x h 1) {v2 : Nat} {hs dr per pl : Int} (h0 : h.1 v2 0 = jI hs) (h1 : h.1 v2 1 = jI dr) (h2 : h.1 v2 2 = jI per) (hh : 0 ≤ hs ∧ hs < wd x h 0) (hd : 0 ≤ dr) (hp3 : 1 ≤ per ∧ per ≤ 3) (hm : dr + pl_ (wd x h (290 + 81 * p + 2)) per ≤ wd x h (164 + 21 * hs.toNat)) (hpl : 0 ≤ pl ∧ pl < pl_ (wd x h (290 + 81 * p + 2)) per) :
    f_X5_likeAt x h (x + 13 + 6 + 3 * p) v2 (jI pl) = some (jI (like_ (wd x h) hs dr (pl_ (wd x h (290 + 81 * p + 2)) per) pl)) := by
  have hdd := I.dr hh
  have hlb : ∀ d : Int, 0 ≤ d → d < 20 → 0 ≤ lk_ (wd x h) hs d ∧ lk_ (wd x h) hs d ≤ 9 := fun d q1 q2 => I.1.2.2.1.lk hh ⟨q1, q2⟩
  have hpb := c_pby I hp hp3.1 hp3.2
  generalize pl_ (wd x h (290 + 81 * p + 2)) per = mn at hm hpl hpb ⊢
  have hlk := c_look I hh (d := dr + pl) (by omega)
  have hlp := hlb (dr + pl) (by omega) (by omega)
  generalize hf : (fun k : Nat => if (k : Int) ≠ pl ∧ lk_ (wd x h) hs (dr + k) = lk_ (wd x h) hs (dr + pl) then (1 : Int) else 0) = f
  have hb : ∀ n, n ≤ 52 → 0 ≤ sm_ n f ∧ sm_ n f ≤ 52 := fun n hn => by rw [← hf]; exact like_b hn
  have key := x_up0 (P := fun m i => f_X5_likeAt_35 x h m v2 (jI pl) (jI (lk_ (wd x h) hs (dr + pl))) (jI mn) (jI (sm_ i f)) (jI (i : Int)) = some (jI (sm_ mn.toNat f))) mn.toNat (by omega) (fun m => by
    simp (disch := omega) only [f_X5_likeAt_35, jL, jJ, jI_lt, jI_le, jI_eq, jI_nat, jBt, jBo, x_let, if_pos, if_neg, if_true, Option.bind_some, wd_j, and_self, true_and, and_true, Int.toNat_zero, Int.toNat_natCast, isb0, isb1]) (fun m i hi ih => by
    have hbi := hb i (by omega)
    have hl2 := c_look I hh (d := dr + i) (by omega)
    have hlq := hlb (dr + i) (by omega) (by omega)
    have hfi : f i = if (i : Int) ≠ pl ∧ lk_ (wd x h) hs (dr + i) = lk_ (wd x h) hs (dr + pl) then (1 : Int) else 0 := by rw [← hf]
    by_cases c1 : (i : Int) = pl
    · rw [if_neg (by omega)] at hfi
      simp only [sm_s, hfi, Int.add_zero, Int.natCast_add, Int.natCast_one] at ih
      simp (disch := omega) only [f_X5_likeAt_35, f_X5_likeAt_74, jL, jJ, jI_lt, jI_le, jI_eq, jI_nat, jBt, jBo, x_let, if_pos, if_neg, if_true, Option.bind_some, wd_j, and_self, true_and, and_true, Int.toNat_zero, Int.toNat_natCast, isb0, isb1, ih]
    · by_cases c2 : lk_ (wd x h) hs (dr + i) = lk_ (wd x h) hs (dr + pl)
      · rw [if_pos ⟨c1, c2⟩] at hfi
        simp only [sm_s, hfi, Int.natCast_add, Int.natCast_one] at ih
        simp (disch := omega) only [f_X5_likeAt_35, f_X5_likeAt_74, h0, h1, jL, jJ, jI_lt, jI_le, jI_eq, jI_nat, jBt, jBo, x_let, if_pos, if_neg, if_true, Option.bind_some, wd_j, and_self, true_and, and_true, Int.toNat_zero, Int.toNat_natCast, isb0, isb1, hl2, ih]
      · rw [if_neg (fun q => c2 q.2)] at hfi
        simp only [sm_s, hfi, Int.add_zero, Int.natCast_add, Int.natCast_one] at ih
        simp (disch := omega) only [f_X5_likeAt_35, f_X5_likeAt_74, h0, h1, jL, jJ, jI_lt, jI_le, jI_eq, jI_nat, jBt, jBo, x_let, if_pos, if_neg, if_true, Option.bind_some, wd_j, and_self, true_and, and_true, Int.toNat_zero, Int.toNat_natCast, isb0, isb1, hl2, ih])
  rw [f_X5_likeAt, h0, h1, jI_add, hlk, Option.bind_some, h2, hpb, Option.bind_some]
  unfold like_
  rw [hf]
  exact key
theorem r_like {gh : Nat} {x : Nat} {K : XK} {h : XH} (I : Inv gh x K h) {hs dr mn pl : Int} (hh : 0 ≤ hs ∧ hs < wd x h 0) (hd : 0 ≤ dr) (hm : dr + mn ≤ 20) (hpl : 0 ≤ pl ∧ pl < mn) :
    f_X12_likeAt x h (jI hs) (jI dr) (jI mn) (jI pl) = some (jI (like_ (wd x h) hs dr mn pl)) := by
  have hlb : ∀ d : Int, 0 ≤ d → d < 20 → 0 ≤ lk_ (wd x h) hs d ∧ lk_ (wd x h) hs d ≤ 9 := fun d q1 q2 => I.1.2.2.1.lk hh ⟨q1, q2⟩
  have hlk := r_look I hh (d := dr + pl) (by omega)
  have hlp := hlb (dr + pl) (by omega) (by omega)
  generalize hf : (fun k : Nat => if (k : Int) ≠ pl ∧ lk_ (wd x h) hs (dr + k) = lk_ (wd x h) hs (dr + pl) then (1 : Int) else 0) = f
  have hb : ∀ n, n ≤ 52 → 0 ≤ sm_ n f ∧ sm_ n f ≤ 52 := fun n hn => by rw [← hf]; exact like_b hn
  have key := x_up0 (P := fun m i => f_X12_likeAt_6 x h m (jI hs) (jI dr) (jI mn) (jI pl) (jI (sm_ i f)) (jI (i : Int)) = some (jI (sm_ mn.toNat f))) mn.toNat (by omega) (fun m => by
    simp (disch := omega) only [f_X12_likeAt_6, jL, jJ, jI_lt, jI_le, jI_eq, jI_nat, jBt, jBo, x_let, if_pos, if_neg, if_true, Option.bind_some, wd_j, and_self, true_and, and_true, Int.toNat_zero, Int.toNat_natCast, isb0, isb1]) (fun m i hi ih => by
    have hbi := hb i (by omega)
    have hl2 := r_look I hh (d := dr + i) (by omega)
    have hlq := hlb (dr + i) (by omega) (by omega)
    have hfi : f i = if (i : Int) ≠ pl ∧ lk_ (wd x h) hs (dr + i) = lk_ (wd x h) hs (dr + pl) then (1 : Int) else 0 := by rw [← hf]
    by_cases c1 : (i : Int) = pl
    · rw [if_neg (by omega)] at hfi
      simp only [sm_s, hfi, Int.natCast_add, Int.natCast_one] at ih
      simp (disch := omega) only [f_X12_likeAt_6, f_X12_likeAt_46, f_X12_likeAt_47, jL, jJ, jI_lt, jI_le, jI_eq, jI_nat, jBt, jBo, x_let, if_pos, if_neg, if_true, Option.bind_some, wd_j, and_self, true_and, and_true, Int.toNat_zero, Int.toNat_natCast, isb0, isb1, ih]
    · by_cases c2 : lk_ (wd x h) hs (dr + i) = lk_ (wd x h) hs (dr + pl)
      · rw [if_pos ⟨c1, c2⟩] at hfi
        simp only [sm_s, hfi, Int.natCast_add, Int.natCast_one] at ih
        simp (disch := omega) only [f_X12_likeAt_6, f_X12_likeAt_46, f_X12_likeAt_47, jL, jJ, jI_lt, jI_le, jI_eq, jI_nat, jBt, jBo, x_let, if_pos, if_neg, if_true, Option.bind_some, wd_j, and_self, true_and, and_true, Int.toNat_zero, Int.toNat_natCast, isb0, isb1, hl2, hlk, ih]
      · rw [if_neg (fun q => c2 q.2)] at hfi
        simp only [sm_s, hfi, Int.natCast_add, Int.natCast_one] at ih
        simp (disch := omega) only [f_X12_likeAt_6, f_X12_likeAt_46, f_X12_likeAt_47, jL, jJ, jI_lt, jI_le, jI_eq, jI_nat, jBt, jBo, x_let, if_pos, if_neg, if_true, Option.bind_some, wd_j, and_self, true_and, and_true, Int.toNat_zero, Int.toNat_natCast, isb0, isb1, hl2, hlk, ih])
  rw [f_X12_likeAt]
  unfold like_
  rw [hf]
  exact key
