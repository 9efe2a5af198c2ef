/-! ===== count ===== -/
theorem c_dia {gh : Nat} {x : Nat} {K : XK} {h : XH} (I : Inv gh x K h) : f_X7_doorsInAll (x + 9) h = some (jI (sm_ (wd x h 0).toNat (fun j => wd x h (164 + 21 * j)))) := by
  have w0 := I.w0
  have e1 := I.2.1.1.1
  refine x_up0 (P := fun m n => f_X7_doorsInAll_4 (x + 9) h m (jI (sm_ n (fun j => wd x h (164 + 21 * j)))) (jI (n : Int)) = some (jI (sm_ (wd x h 0).toNat (fun j => wd x h (164 + 21 * j))))) (wd x h 0).toNat (by omega) (fun m => by
    unfold f_X7_doorsInAll_4
    rw [e1, if_pos ((jI_le (by omega) (by omega) (by omega) (by omega)).mpr (by omega))]) (fun m n hn ih => by
    have a1 : jI (n : Int) + 1 = jI ((n + 1 : Nat) : Int) := by
      rw [show (1 : Int32) = jI 1 from rfl, jI_add]
      rfl
    have ed : h.1 (x + 9 + 2) n = jI (wd x h (164 + 21 * n)) := (I.2.1.2.2.1 n (by omega)).1
    unfold f_X7_doorsInAll_4
    rw [e1, if_neg (fun e => absurd ((jI_le (by omega) (by omega) (by omega) (by omega)).mp e) (by omega)), if_pos (jI_b (by omega) (by omega) (by omega)), xl_, nat_ (by omega), ed, a1, jI_add]
    exact ih)
theorem r_dia {gh : Nat} {x : Nat} {K : XK} {h : XH} (I : Inv gh x K h) : f_X12_count_73 x x_FU h (jI 0) (jI 0) = some (jI (sm_ (wd x h 0).toNat (fun j => wd x h (164 + 21 * j))), h) := by
  have w0 := I.w0
  have e1 : h.1 (x + 65) (0 : Int32).toNatClampNeg = jI (wd x h 0) := wd_j _ _ _
  refine x_up0 (P := fun m n => f_X12_count_73 x m h (jI (sm_ n (fun j => wd x h (164 + 21 * j)))) (jI (n : Int)) = some (jI (sm_ (wd x h 0).toNat (fun j => wd x h (164 + 21 * j))), h)) (wd x h 0).toNat (by omega) (fun m => by
    unfold f_X12_count_73
    rw [if_pos (by decide), e1, if_pos ((jI_le (by omega) (by omega) (by omega) (by omega)).mpr (by omega))]) (fun m n hn ih => by
    have a1 : jI (n : Int) + 1 = jI ((n + 1 : Nat) : Int) := by
      rw [show (1 : Int32) = jI 1 from rfl, jI_add]
      rfl
    have ed := r_drs I (z := (n : Int)) ⟨by omega, by omega⟩
    rw [Int.toNat_natCast] at ed
    unfold f_X12_count_73
    rw [if_pos (by decide), e1, if_neg (fun e => absurd ((jI_le (by omega) (by omega) (by omega) (by omega)).mp e) (by omega)), ed, Option.bind_some, a1, jI_add]
    exact ih)
theorem r_npt {gh : Nat} {x : Nat} {K : XK} {h : XH} (I : Inv gh x K h) : f_X12_count_108 x x_FU h (jI 0) (jI 0) = some (jI (wd x h 7), h) := by
  have w1 := I.w1
  have e1 : h.1 (x + 65) (1 : Int32).toNatClampNeg = jI (wd x h 1) := wd_j _ _ _
  rw [I.1.2.2.2.2.1.2.1]
  refine x_up0 (P := fun m n => f_X12_count_108 x m h (jI (sm_ n (fun p => if 0 < wd x h (293 + 81 * p) then 1 else 0))) (jI (n : Int)) = some (jI (sm_ (wd x h 1).toNat (fun p => if 0 < wd x h (293 + 81 * p) then 1 else 0)), h)) (wd x h 1).toNat (by omega) (fun m => by
    unfold f_X12_count_108
    rw [if_pos (by decide), e1, if_pos ((jI_le (by omega) (by omega) (by omega) (by omega)).mpr (by omega))]) (fun m n hn ih => by
    have a1 : jI (n : Int) + 1 = jI ((n + 1 : Nat) : Int) := by
      rw [show (1 : Int32) = jI 1 from rfl, jI_add]
      rfl
    have ip := r_isp I (p := n) (by omega)
    rw [show 290 + 81 * n + 3 = 293 + 81 * n by omega] at ip
    rw [sm_s, ← jI_add] at ih
    unfold f_X12_count_108
    rw [if_pos (by decide), e1, if_neg (fun e => absurd ((jI_le (by omega) (by omega) (by omega) (by omega)).mp e) (by omega)), ip, Option.bind_some, xl_, a1]
    by_cases c : 0 < wd x h (293 + 81 * n)
    · simp only [if_pos c] at ih ⊢
      rw [if_neg (show ¬ jI 1 = (0 : Int32) by decide)]
      exact ih
    · simp only [if_neg c] at ih ⊢
      rw [if_pos (show jI 0 = (0 : Int32) from rfl)]
      exact ih)
def ra_ (w : Nat → Int) (n : Nat) : Int := sm_ n (fun p => if 0 < w (290 + 81 * p + 3) then kn_ w p 0 (w (290 + 81 * p + 2)).toNat else 0)
theorem c_ria {gh : Nat} {x : Nat} {K : XK} {h : XH} (I : Inv gh x K h) : f_X7_rightInAll (x + 9) h = some (jI (ra_ (wd x h) (wd x h 1).toNat)) := by
  have w1 := I.w1
  have e4 := I.2.1.1.2.1
  refine x_up0 (P := fun m n => f_X7_rightInAll_4 (x + 9) h m (jI (ra_ (wd x h) n)) (jI (n : Int)) = some (jI (ra_ (wd x h) (wd x h 1).toNat))) (wd x h 1).toNat (by omega) (fun m => by
    unfold f_X7_rightInAll_4
    rw [e4, if_pos ((jI_le (by omega) (by omega) (by omega) (by omega)).mpr (by omega))]) (fun m n hn ih => by
    have a1 : jI (n : Int) + 1 = jI ((n + 1 : Nat) : Int) := by
      rw [show (1 : Int32) = jI 1 from rfl, jI_add]
      rfl
    have hp : (n : Int) < wd x h 1 := by omega
    have k4 : h.1 (x + 9 + 4 + 6 + 3 * n) 3 = _ := (I.pk hp).2.2.2.1
    have rg : f_X2_rightOnes (x + 9 + 4 + 6 + 3 * n) h = _ := c_rgt I hp
    unfold ra_ at ih
    rw [sm_s, ← jI_add] at ih
    unfold f_X7_rightInAll_4 f_X7_rightInAll_38
    rw [e4, if_neg (fun e => absurd ((jI_le (by omega) (by omega) (by omega) (by omega)).mp e) (by omega)), if_pos (jI_b (by omega) (by omega) (by omega)), nat_ (by omega), k4, a1]
    by_cases c : 0 < wd x h (290 + 81 * n + 3)
    · rw [if_pos c] at ih
      rw [if_pos c, if_neg (show ¬ jI 1 = (0 : Int32) by decide), if_pos (jI_b (by omega) (by omega) (by omega)), rg, Option.bind_some]
      exact ih
    · rw [if_neg c] at ih
      rw [if_neg c, if_pos (show jI 0 = (0 : Int32) from rfl)]
      exact ih)
theorem r_ria {gh : Nat} {x : Nat} {K : XK} {h : XH} (I : Inv gh x K h) : f_X12_count_180 x x_FU h (jI 0) (jI 0) = some (jI (ra_ (wd x h) (wd x h 1).toNat), h) := by
  have w1 := I.w1
  have e1 : h.1 (x + 65) (1 : Int32).toNatClampNeg = jI (wd x h 1) := wd_j _ _ _
  refine x_up0 (P := fun m n => f_X12_count_180 x m h (jI (ra_ (wd x h) n)) (jI (n : Int)) = some (jI (ra_ (wd x h) (wd x h 1).toNat), h)) (wd x h 1).toNat (by omega) (fun m => by
    unfold f_X12_count_180
    rw [if_pos (by decide), e1, if_pos ((jI_le (by omega) (by omega) (by omega) (by omega)).mpr (by omega))]) (fun m n hn ih => by
    have a1 : jI (n : Int) + 1 = jI ((n + 1 : Nat) : Int) := by
      rw [show (1 : Int32) = jI 1 from rfl, jI_add]
      rfl
    have hp : (n : Int) < wd x h 1 := by omega
    have ip := r_isp I hp
    unfold ra_ at ih
    rw [sm_s, ← jI_add] at ih
    unfold f_X12_count_180 f_X12_count_209
    rw [if_pos (by decide), e1, if_neg (fun e => absurd ((jI_le (by omega) (by omega) (by omega) (by omega)).mp e) (by omega)), ip, Option.bind_some, a1]
    by_cases c : 0 < wd x h (290 + 81 * n + 3)
    · have rg : f_X12_kindsOf x h (jI n) 0 = _ := r_kns I hp c (k := 0) (by omega)
      rw [if_pos c] at ih
      rw [if_pos c, if_neg (show ¬ jI 1 = (0 : Int32) by decide), rg, Option.bind_some]
      exact ih
    · rw [if_neg c] at ih
      rw [if_neg c, if_pos (show jI 0 = (0 : Int32) from rfl)]
      exact ih)
/-- count -/
theorem P_row41 {gh : Nat} {x : Nat} {K : XK} {h : XH} (I : Inv gh x K h) (a1 : Int32) : ∃ h', f_row41 x h a1 = some h' ∧ Inv gh x K h' := by
  refine ⟨x_i h (x + 64) 0 (jI 0), ?_, I.m0⟩
  obtain ⟨⟨e1, e4, e6, e7, e8, e10, e12, e15⟩, -⟩ := id I.2.1
  have J := I.m0
  have ew : wd x (x_i h (x + 64) 0 (jI 0)) = wd x h := wm0
  have rd := r_dia J
  have rp := r_npt J
  have rr := r_ria J
  rw [ew] at rd rp rr
  have wk : ∀ k : Nat, (x_i h (x + 64) 0 (0 : Int32)).1 (x + 65) k = jI (wd x h k) := fun k => by
    rw [gi_n (by omega)]
    exact wd_j x h k
  have key : ∀ v : Int32, f_X11_count x h a1 = some v → f_X12_count x h a1 = some (v, x_i h (x + 64) 0 (jI 0)) → f_row41 x h a1 = some (x_i h (x + 64) 0 (jI 0)) := fun v q1 q2 => by
    unfold f_row41
    rw [q1, Option.bind_some, q2, Option.bind_some, if_pos rfl]
  by_cases c0 : a1 = 0
  · refine key (jI (wd x h 0)) ?_ ?_
    · unfold f_X11_count
      rw [if_pos c0, e1]
    · unfold f_X12_count
      rw [xl_, if_pos c0, if_pos (by decide), wk]
      rfl
  by_cases c1 : a1 = 1
  · refine key (jI (sm_ (wd x h 0).toNat (fun j => wd x h (164 + 21 * j)))) ?_ ?_
    · unfold f_X11_count
      rw [if_neg c0, if_pos c1, c_dia I, Option.bind_some]
    · unfold f_X12_count
      rw [xl_, if_neg c0, if_pos c1]
      exact rd
  by_cases c2 : a1 = 2
  · refine key (jI (wd x h 1)) ?_ ?_
    · unfold f_X11_count
      rw [if_neg c0, if_neg c1, if_pos c2, e4]
    · unfold f_X12_count
      rw [xl_, if_neg c0, if_neg c1, if_pos c2, if_pos (by decide), wk]
      rfl
  by_cases c3 : a1 = 3
  · refine key (jI (wd x h 7)) ?_ ?_
    · unfold f_X11_count
      rw [if_neg c0, if_neg c1, if_neg c2, if_pos c3, e6]
    · unfold f_X12_count
      rw [xl_, if_neg c0, if_neg c1, if_neg c2, if_pos c3]
      exact rp
  by_cases c4 : a1 = 4
  · refine key (jI (wd x h 6)) ?_ ?_
    · unfold f_X11_count
      rw [if_neg c0, if_neg c1, if_neg c2, if_neg c3, if_pos c4, e7]
    · unfold f_X12_count
      rw [xl_, if_neg c0, if_neg c1, if_neg c2, if_neg c3, if_pos c4, if_pos (by decide), wk]
      rfl
  by_cases c5 : a1 = 5
  · refine key (jI (wd x h 2)) ?_ ?_
    · unfold f_X11_count
      rw [if_neg c0, if_neg c1, if_neg c2, if_neg c3, if_neg c4, if_pos c5, e8]
    · unfold f_X12_count
      rw [xl_, if_neg c0, if_neg c1, if_neg c2, if_neg c3, if_neg c4, if_pos c5, if_pos (by decide), wk]
      rfl
  by_cases c6 : a1 = 6
  · refine key (jI (wd x h 3)) ?_ ?_
    · unfold f_X11_count
      rw [if_neg c0, if_neg c1, if_neg c2, if_neg c3, if_neg c4, if_neg c5, if_pos c6, e10]
    · unfold f_X12_count
      rw [xl_, if_neg c0, if_neg c1, if_neg c2, if_neg c3, if_neg c4, if_neg c5, if_pos c6, if_pos (by decide), wk]
      rfl
  by_cases c7 : a1 = 7
  · refine key (jI (wd x h 5)) ?_ ?_
    · unfold f_X11_count
      rw [if_neg c0, if_neg c1, if_neg c2, if_neg c3, if_neg c4, if_neg c5, if_neg c6, if_pos c7, e15]
    · unfold f_X12_count
      rw [xl_, if_neg c0, if_neg c1, if_neg c2, if_neg c3, if_neg c4, if_neg c5, if_neg c6, if_pos c7, if_pos (by decide), wk]
      rfl
  by_cases c8 : a1 = 8
  · refine key (jI (wd x h 4)) ?_ ?_
    · unfold f_X11_count
      rw [if_neg c0, if_neg c1, if_neg c2, if_neg c3, if_neg c4, if_neg c5, if_neg c6, if_neg c7, if_pos c8, e12]
    · unfold f_X12_count
      rw [xl_, if_neg c0, if_neg c1, if_neg c2, if_neg c3, if_neg c4, if_neg c5, if_neg c6, if_neg c7, if_pos c8, if_pos (by decide), wk]
      rfl
  by_cases c9 : a1 = 9
  · refine key (jI (ra_ (wd x h) (wd x h 1).toNat)) ?_ ?_
    · unfold f_X11_count
      rw [if_neg c0, if_neg c1, if_neg c2, if_neg c3, if_neg c4, if_neg c5, if_neg c6, if_neg c7, if_neg c8, if_pos c9, c_ria I, Option.bind_some]
    · unfold f_X12_count
      rw [xl_, if_neg c0, if_neg c1, if_neg c2, if_neg c3, if_neg c4, if_neg c5, if_neg c6, if_neg c7, if_neg c8, if_pos c9]
      exact rr
  refine key (-1) ?_ ?_
  · unfold f_X11_count
    rw [if_neg c0, if_neg c1, if_neg c2, if_neg c3, if_neg c4, if_neg c5, if_neg c6, if_neg c7, if_neg c8, if_neg c9]
  · unfold f_X12_count
    rw [xl_, if_neg c0, if_neg c1, if_neg c2, if_neg c3, if_neg c4, if_neg c5, if_neg c6, if_neg c7, if_neg c8, if_neg c9]
    rfl
