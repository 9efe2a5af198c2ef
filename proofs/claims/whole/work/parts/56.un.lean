def D_ (w : Nat → Int) (v : Int32) (c : Nat) : Int := sm_ (w 0).toNat (dl_ w v (c : Int))
theorem D_b {gh : Nat} {x : Nat} {K : XK} {h : XH} (I : Inv gh x K h) {v : Int32} {c : Nat} : 0 ≤ D_ (wd x h) v c ∧ D_ (wd x h) v c ≤ 120 := dt_b I _ (by have := I.w0; omega)
theorem d_m {d : Int} (h : 0 ≤ d ∧ d ≤ 120) : 0 ≤ d * (d - 1) ∧ d * (d - 1) ≤ 120 * 120 := by
  by_cases c : d = 0
  · subst c; decide
  · exact ⟨Int.mul_nonneg (by omega) (by omega), Int.mul_le_mul (by omega) (by omega) (by omega) (by omega)⟩
def uA_ (w : Nat → Int) (v : Int32) (n : Nat) : Int := sm_ n (fun c => if D_ w v c ≤ 0 then 0 else 1)
def uB_ (w : Nat → Int) (v : Int32) (n : Nat) : Int := sm_ n (fun c => D_ w v c * (D_ w v c - 1) / 2)
theorem c_unl {gh : Nat} {x : Nat} {K : XK} {h : XH} (I : Inv gh x K h) {v v2 : Int32} : f_X11_unlike x h v v2 = some (if v2 = 0 then jI (uA_ (wd x h) v 10) else jI (uB_ (wd x h) v 10)) := by
  exact x_up0 (P := fun m c => f_X11_unlike_8 x h m v v2 (jI (uA_ (wd x h) v c)) (jI (uB_ (wd x h) v c)) (jI (c : Int)) = some (if v2 = 0 then jI (uA_ (wd x h) v 10) else jI (uB_ (wd x h) v 10))) 10 (by omega) (fun m => by
    unfold f_X11_unlike_8
    exact if_pos (by decide)) (fun m c hc ih => by
    have cd := c_dt I (v := v) (c := (c : Int)) (by omega)
    have hb := D_b I (v := v) (c := c)
    have hm := d_m hb
    have n10 : ¬ (10 : Int32) ≤ jI (c : Int) := fun e => absurd ((jI_le (by omega) (by omega) (by omega) (by omega)).mp (show jI 10 ≤ jI (c : Int) from e)) (by omega)
    have a1 : jI (c : Int) + 1 = jI ((c + 1 : Nat) : Int) := by
      rw [show (1 : Int32) = jI 1 from rfl, jI_add]
      rfl
    have eA : jI (uA_ (wd x h) v c) + (if jI (D_ (wd x h) v c) ≤ 0 then 0 else 1) = jI (uA_ (wd x h) v (c + 1)) := by
      unfold uA_
      rw [sm_s, ← jI_add]
      congr 1
      by_cases e : D_ (wd x h) v c ≤ 0
      · rw [if_pos e]; exact if_pos (show jI (D_ (wd x h) v c) ≤ jI 0 from (jI_le (by omega) (by omega) (by omega) (by omega)).mpr e)
      · rw [if_neg e]; exact if_neg (show ¬ jI (D_ (wd x h) v c) ≤ jI 0 from fun q => e ((jI_le (by omega) (by omega) (by omega) (by omega)).mp q))
    have eB : jI (uB_ (wd x h) v c) + (jI (D_ (wd x h) v c) * (jI (D_ (wd x h) v c) - 1)) / 2 = jI (uB_ (wd x h) v (c + 1)) := by
      unfold uB_
      rw [sm_s, ← jI_add]
      congr 1
      rw [show (1 : Int32) = jI 1 from rfl, show (2 : Int32) = jI 2 from rfl, jI_sub, jI_mul, jI_div (by omega) (by omega) (by omega) (by omega)]
    unfold f_X11_unlike_8
    rw [if_neg n10, show f_X7_doorsThatLook (x + 9) h (jI (c : Int)) v = some (jI (D_ (wd x h) v c)) from cd, Option.bind_some]
    simp only [x_let]
    rw [eA, eB, a1]
    exact ih)
