theorem r_26 {gh : Nat} {x : Nat} {K : XK} {h : XH} (I : Inv gh x K h) {k13 : XH → Int32 → Int32 → Int32 → Int32 → Int32 → Option (Int32 × XH)} {v v2 v3 v4 : Int32} {c : Nat} (hc : c < 10) : f_X12_unlike_26 k13 x x_FU h v v2 v3 v4 (jI (c : Int)) (jI 0) (jI 0) = k13 h v v2 (v3 + (if jI (D_ (wd x h) v c) ≤ 0 then 0 else 1)) (v4 + (jI (D_ (wd x h) v c) * (jI (D_ (wd x h) v c) - 1)) / 2) (jI (c : Int) + 1) := by
  have h0 := I.w0
  have e0 : h.1 (x + 65) (0 : Int32).toNatClampNeg = jI (wd x h 0) := wd_j _ _ _
  exact x_up0 (P := fun m j => f_X12_unlike_26 k13 x m h v v2 v3 v4 (jI (c : Int)) (jI (sm_ j (dl_ (wd x h) v (c : Int)))) (jI (j : Int)) = k13 h v v2 (v3 + (if jI (D_ (wd x h) v c) ≤ 0 then 0 else 1)) (v4 + (jI (D_ (wd x h) v c) * (jI (D_ (wd x h) v c) - 1)) / 2) (jI (c : Int) + 1)) (wd x h 0).toNat (by omega) (fun m => by
    unfold f_X12_unlike_26
    rw [if_pos (by decide), e0, if_pos ((jI_le (by omega) (by omega) (by omega) (by omega)).mpr (by omega))]
    rfl) (fun m j hj ih => by
    have hb := dt_b I (v := v) (c := (c : Int)) j (by omega)
    unfold f_X12_unlike_26
    rw [if_pos (by decide), e0, if_neg (fun e => absurd ((jI_le (by omega) (by omega) (by omega) (by omega)).mp e) (by omega))]
    exact (r_dl I (by omega) (by omega) (by omega)).trans ih)
theorem r_unl {gh : Nat} {x : Nat} {K : XK} {h : XH} (I : Inv gh x K h) {v v2 : Int32} : f_X12_unlike_13 x x_FU h v v2 (jI 0) (jI 0) (jI 0) = some (if v2 = 0 then jI (uA_ (wd x h) v 10) else jI (uB_ (wd x h) v 10), h) := by
  exact x_up0 (P := fun m c => f_X12_unlike_13 x m h v v2 (jI (uA_ (wd x h) v c)) (jI (uB_ (wd x h) v c)) (jI (c : Int)) = some (if v2 = 0 then jI (uA_ (wd x h) v 10) else jI (uB_ (wd x h) v 10), h)) 10 (by omega) (fun m => by
    unfold f_X12_unlike_13
    exact if_pos (by decide)) (fun m c hc ih => by
    have hb := D_b I (v := v) (c := c)
    have hm := d_m hb
    have n10 : ¬ (10 : Int32) ≤ jI (c : Int) := fun e => absurd ((jI_le (by omega) (by omega) (by omega) (by omega)).mp (show jI 10 ≤ jI (c : Int) from e)) (by omega)
    have a1 : jI (c : Int) + 1 = jI ((c + 1 : Nat) : Int) := by
      rw [show (1 : Int32) = jI 1 from rfl, jI_add]
      rfl
    have eA : jI (uA_ (wd x h) v c) + (if jI (D_ (wd x h) v c) ≤ 0 then 0 else 1) = jI (uA_ (wd x h) v (c + 1)) := by
      unfold uA_
      rw [sm_s, ← jI_add]
      congr 1
      by_cases e : D_ (wd x h) v c ≤ 0
      · rw [if_pos e]; exact if_pos (show jI (D_ (wd x h) v c) ≤ jI 0 from (jI_le (by omega) (by omega) (by omega) (by omega)).mpr e)
      · rw [if_neg e]; exact if_neg (show ¬ jI (D_ (wd x h) v c) ≤ jI 0 from fun q => e ((jI_le (by omega) (by omega) (by omega) (by omega)).mp q))
    have eB : jI (uB_ (wd x h) v c) + (jI (D_ (wd x h) v c) * (jI (D_ (wd x h) v c) - 1)) / 2 = jI (uB_ (wd x h) v (c + 1)) := by
      unfold uB_
      rw [sm_s, ← jI_add]
      congr 1
      rw [show (1 : Int32) = jI 1 from rfl, show (2 : Int32) = jI 2 from rfl, jI_sub, jI_mul, jI_div (by omega) (by omega) (by omega) (by omega)]
    unfold f_X12_unlike_13
    rw [if_neg n10]
    refine (r_26 I hc).trans ?_
    rw [eA, eB, a1]
    exact ih)
/-- unlike -/
theorem P_row29 {gh : Nat} {x : Nat} {K : XK} {h : XH} (I : Inv gh x K h) (a1 a2 : Int32) : ∃ h', f_row29 x h a1 a2 = some h' ∧ Inv gh x K h' := by
  refine ⟨x_i h (x + 64) 0 (jI 0), ?_, I.m0⟩
  have r := r_unl I.m0 (v := a1) (v2 := if a2 = 0 then 0 else 1)
  rw [wm0] at r
  have r' : f_X12_unlike x h a1 (if a2 = 0 then 0 else 1) = _ := r
  unfold f_row29
  rw [c_unl I, Option.bind_some, r', Option.bind_some, if_pos rfl]
