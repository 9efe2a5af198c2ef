/-! ===== feed ===== -/
def fa_ (a1 a2 a3 a4 a5 : Int32) (q : Nat) : Int32 := if q = 0 then a1 else if q = 1 then a2 else if q = 2 then a3 else if q = 3 then a4 else a5
def sg_ (z : Int) : Int := if z < 128 then z else z - 256
theorem ad_t {x L m n : Nat} {f g : Nat → Int} {h : XH} (e : ∀ i, i < n → g i = f (m + i)) : ad_ x (L + m) g n (ad_ x L f m h) = ad_ x L f (m + n) h := by
  induction n with
  | zero => rfl
  | succ n ih =>
    show x_i (x_i (ad_ x (L + m) g n (ad_ x L f m h)) (x + 2) (L + m + n) (jI (g n))) (x + 1) 1 (jI ((L + m + n + 1 : Nat) : Int)) = x_i (x_i (ad_ x L f (m + n) h) (x + 2) (L + (m + n)) (jI (f (m + n)))) (x + 1) 1 (jI ((L + (m + n) + 1 : Nat) : Int))
    rw [ih (fun i hi => e i (by omega)), e n (by omega), Nat.add_assoc L m n]
theorem c_feed {x L : Nat} {h : XH} {a1 a2 a3 a4 a5 : Int32} {z : Int32 → Nat → Int} (hL : L + 20 ≤ 400) (h0 : h.1 (x + 1) 1 = jI (L : Int)) (hz : ∀ (v : Int32) (i : Nat), i < 4 → (x_ushr v (jI (24 - 8 * (i : Int)))) &&& 255 = jI (z v i)) : f_X11_feed x h a1 a2 a3 a4 a5 = some (jI ((L + 20 : Nat) : Int), ad_ x L (fun k => z (fa_ a1 a2 a3 a4 a5 (k / 4)) (k % 4)) 20 h) := by
  have st : ∀ m, m % 4 = 0 → m < 20 → f_X8_addNumber x (ad_ x L (fun k => z (fa_ a1 a2 a3 a4 a5 (k / 4)) (k % 4)) m h) (fa_ a1 a2 a3 a4 a5 (m / 4)) = some (ad_ x L (fun k => z (fa_ a1 a2 a3 a4 a5 (k / 4)) (k % 4)) (m + 4) h) := fun m h4 h20 => by
    rw [c_addN (L := L + m) (f := fun i => z (fa_ a1 a2 a3 a4 a5 (m / 4)) i) (by omega) (ad_l h0) (fun i hi => hz _ i hi)]
    rw [ad_t (fun i hi => by
      show z (fa_ a1 a2 a3 a4 a5 (m / 4)) i = z (fa_ a1 a2 a3 a4 a5 ((m + i) / 4)) ((m + i) % 4)
      rw [show (m + i) / 4 = m / 4 by omega, show (m + i) % 4 = i by omega])]
  have s0 : f_X8_addNumber x h a1 = some (ad_ x L (fun k => z (fa_ a1 a2 a3 a4 a5 (k / 4)) (k % 4)) 4 h) := st 0 rfl (by omega)
  have s1 : f_X8_addNumber x (ad_ x L (fun k => z (fa_ a1 a2 a3 a4 a5 (k / 4)) (k % 4)) 4 h) a2 = some (ad_ x L (fun k => z (fa_ a1 a2 a3 a4 a5 (k / 4)) (k % 4)) 8 h) := st 4 rfl (by omega)
  have s2 : f_X8_addNumber x (ad_ x L (fun k => z (fa_ a1 a2 a3 a4 a5 (k / 4)) (k % 4)) 8 h) a3 = some (ad_ x L (fun k => z (fa_ a1 a2 a3 a4 a5 (k / 4)) (k % 4)) 12 h) := st 8 rfl (by omega)
  have s3 : f_X8_addNumber x (ad_ x L (fun k => z (fa_ a1 a2 a3 a4 a5 (k / 4)) (k % 4)) 12 h) a4 = some (ad_ x L (fun k => z (fa_ a1 a2 a3 a4 a5 (k / 4)) (k % 4)) 16 h) := st 12 rfl (by omega)
  have s4 : f_X8_addNumber x (ad_ x L (fun k => z (fa_ a1 a2 a3 a4 a5 (k / 4)) (k % 4)) 16 h) a5 = some (ad_ x L (fun k => z (fa_ a1 a2 a3 a4 a5 (k / 4)) (k % 4)) 20 h) := st 16 rfl (by omega)
  have rm : f_X8_hasRoomForFive x h = 1 := by
    unfold f_X8_hasRoomForFive
    rw [h0, show (20 : Int32) = jI 20 from rfl, jI_add]
    exact if_neg (fun e => absurd ((jI_lt (by omega) (by omega) (by omega) (by omega)).mp (show jI 400 < jI ((L : Int) + 20) from e)) (by omega))
  unfold f_X11_feed
  rw [rm, if_neg (by decide), s0, Option.bind_some, s1, Option.bind_some, s2, Option.bind_some, s3, Option.bind_some, s4, Option.bind_some, ad_l h0]
theorem r_feed {x L : Nat} {H : XH} {a1 a2 a3 a4 a5 : Int32} {z : Int32 → Nat → Int} (hL : L + 20 ≤ 400) (h0 : H.1 (x + 64) 5 = jI (L : Int)) (hz : ∀ (v : Int32) (i : Nat), i < 4 → ((x_shr v (jI (24 - 8 * (i : Int)))).toInt8.toInt32).toInt8.toInt32 = jI (sg_ (z v i))) : f_X12_feed x H a1 a2 a3 a4 a5 = some (jI ((L + 20 : Nat) : Int), x_i (wr_ (x + 67) L (fun k => sg_ (z (fa_ a1 a2 a3 a4 a5 (k / 4)) (k % 4))) 20 (x_i (x_i (x_i (x_i (x_i (x_i H (x + 64) 0 (jI 0)) (x + 68) 0 a1) (x + 68) 1 a2) (x + 68) 2 a3) (x + 68) 3 a4) (x + 68) 4 a5)) (x + 64) 5 (jI ((L + 20 : Nat) : Int))) := by
  have e5 : ∀ n, (wr_ (x + 67) L (fun k => sg_ (z (fa_ a1 a2 a3 a4 a5 (k / 4)) (k % 4))) n (x_i (x_i (x_i (x_i (x_i (x_i H (x + 64) 0 (jI 0)) (x + 68) 0 a1) (x + 68) 1 a2) (x + 68) 2 a3) (x + 68) 3 a4) (x + 68) 4 a5)).1 (x + 64) 5 = jI (L : Int) := fun n => by
    rw [wr_n (by omega), gi_n (by omega), gi_n (by omega), gi_n (by omega), gi_n (by omega), gi_n (by omega), gi_k (by decide), h0]
  have e8 : ∀ n q, q < 5 → (wr_ (x + 67) L (fun k => sg_ (z (fa_ a1 a2 a3 a4 a5 (k / 4)) (k % 4))) n (x_i (x_i (x_i (x_i (x_i (x_i H (x + 64) 0 (jI 0)) (x + 68) 0 a1) (x + 68) 1 a2) (x + 68) 2 a3) (x + 68) 3 a4) (x + 68) 4 a5)).1 (x + 68) q = fa_ a1 a2 a3 a4 a5 q := fun n q hq => by
    rw [wr_n (by omega)]
    rcases (show q = 0 ∨ q = 1 ∨ q = 2 ∨ q = 3 ∨ q = 4 by omega) with e | e | e | e | e <;> subst e <;> simp [gi_, fa_]
  have a20 : jI (L : Int) + 20 = jI ((L + 20 : Nat) : Int) := by
    rw [show (20 : Int32) = jI 20 from rfl, jI_add]
    rfl
  have lp : f_X12_feed_60 x x_FU (x_i (x_i (x_i (x_i (x_i (x_i H (x + 64) 0 (jI 0)) (x + 68) 0 a1) (x + 68) 1 a2) (x + 68) 2 a3) (x + 68) 3 a4) (x + 68) 4 a5) 0 = some (jI ((L + 20 : Nat) : Int), x_i (wr_ (x + 67) L (fun k => sg_ (z (fa_ a1 a2 a3 a4 a5 (k / 4)) (k % 4))) 20 (x_i (x_i (x_i (x_i (x_i (x_i H (x + 64) 0 (jI 0)) (x + 68) 0 a1) (x + 68) 1 a2) (x + 68) 2 a3) (x + 68) 3 a4) (x + 68) 4 a5)) (x + 64) 5 (jI ((L + 20 : Nat) : Int))) := x_up0 (P := fun m i => f_X12_feed_60 x m (wr_ (x + 67) L (fun k => sg_ (z (fa_ a1 a2 a3 a4 a5 (k / 4)) (k % 4))) i (x_i (x_i (x_i (x_i (x_i (x_i H (x + 64) 0 (jI 0)) (x + 68) 0 a1) (x + 68) 1 a2) (x + 68) 2 a3) (x + 68) 3 a4) (x + 68) 4 a5)) (jI (i : Int)) = some (jI ((L + 20 : Nat) : Int), x_i (wr_ (x + 67) L (fun k => sg_ (z (fa_ a1 a2 a3 a4 a5 (k / 4)) (k % 4))) 20 (x_i (x_i (x_i (x_i (x_i (x_i H (x + 64) 0 (jI 0)) (x + 68) 0 a1) (x + 68) 1 a2) (x + 68) 2 a3) (x + 68) 3 a4) (x + 68) 4 a5)) (x + 64) 5 (jI ((L + 20 : Nat) : Int)))) 20 (by omega) (fun m => by
    unfold f_X12_feed_60
    rw [if_pos (by decide)]
    simp only [x_let]
    rw [e5, a20, gi_s]) (fun m i hi ih => by
    have n20 : ¬ (20 : Int32) ≤ jI (i : Int) := fun e => absurd ((jI_le (by omega) (by omega) (by omega) (by omega)).mp (show jI 20 ≤ jI (i : Int) from e)) (by omega)
    have d4 : jI (i : Int) / 4 = jI ((i / 4 : Nat) : Int) := by
      rw [show (4 : Int32) = jI 4 from rfl, jI_div (by omega) (by omega) (by omega) (by omega)]
      rfl
    have r4 : x_rem (jI (i : Int)) 4 = jI ((i % 4 : Nat) : Int) := by
      rw [show (4 : Int32) = jI 4 from rfl, jI_rem (by omega) (by omega) (by omega) (by omega)]
      rfl
    have sh : (24 : Int32) - 8 * jI ((i % 4 : Nat) : Int) = jI (24 - 8 * ((i % 4 : Nat) : Int)) := by
      rw [show (24 : Int32) = jI 24 from rfl, show (8 : Int32) = jI 8 from rfl, jI_mul, jI_sub]
    have al : jI (L : Int) + jI (i : Int) = jI ((L + i : Nat) : Int) := by
      rw [jI_add]
      rfl
    have a1' : jI (i : Int) + 1 = jI ((i + 1 : Nat) : Int) := by
      rw [show (1 : Int32) = jI 1 from rfl, jI_add]
      rfl
    have t4 : (jI ((i / 4 : Nat) : Int)).toNatClampNeg = i / 4 := by rw [jI_nat (by omega) (by omega), Int.toNat_natCast]
    have tl : (jI ((L + i : Nat) : Int)).toNatClampNeg = L + i := by rw [jI_nat (by omega) (by omega), Int.toNat_natCast]
    unfold f_X12_feed_60
    simp only [x_let]
    rw [if_neg n20, d4, if_pos (jI_b (by omega) (by omega) (by omega)), e5, al, if_pos (jI_b (by omega) (by omega) (by omega)), tl, t4, e8 _ _ (by omega), r4, sh, hz _ _ (by omega), a1']
    exact ih)
  have c0 : (x_i H (x + 64) 0 0).1 (x + 64) 5 = jI (L : Int) := by rw [gi_k (by decide), h0]
  have le : jI ((L + 20 : Nat) : Int) ≤ 400 := (jI_le (by omega) (by omega) (by omega) (by omega)).mpr (show ((L + 20 : Nat) : Int) ≤ 400 by omega)
  unfold f_X12_feed
  simp only [x_let]
  rw [c0, a20, if_pos le, if_pos (by decide), if_pos (by decide), if_pos (by decide), if_pos (by decide), if_pos (by decide)]
  exact lp
