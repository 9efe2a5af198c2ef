/-! ===== plans: the search's answer, and the reference ===== -/
theorem Wl_b {gh : Nat} {x : Nat} {K : XK} {h : XH} (I : Inv gh x K h) {t H P s : Nat} {per sec : Int} (hP : wd x h 1 = P) (k d : Nat) : -1 ≤ Wl (wd x h) t per sec H (qs_ s P) k d ∧ Wl (wd x h) t per sec H (qs_ s P) k d ≤ 5200 := by
  unfold Wl
  by_cases c : k < (qs_ s P).length ∧ d < H
  · rw [if_pos c]
    have q := qs_lt P k c.1
    have p8 := (I.wp (q := (qs_ s P).getD k 0) (by omega)).2.2.2.2.2.2.2.1
    exact si_b p8
  · rw [if_neg c]
    omega
theorem c_srch {x n : Nat} {h : XH} {W : Nat → Nat → Int} {l : List Nat} (hl : l.length = n) (hn : n ≤ 5) (hW : ∀ k d, -1 ≤ W k d ∧ W k d ≤ 5200) (wf : WF x h l W) :
    ∃ h2, f_X3_search x h = some h2 ∧ PlS x h2 W n (dS_ W 6 n n 0 0 [] (-1, [])) ∧ (∀ k, k < n → h2.1 (x + 55) k = jI (l.getD k 0 : Nat)) ∧ SF x h h2 := by
  obtain ⟨h2, k1, k2, k3, k4, k5⟩ := c_stl (x := x) hn hW n 0 0 0 [] (-1, []) 7 h (by omega) rfl (by omega) (by omega) (by omega) (by omega) ⟨by rw [wf.1, hl], wf.2.1, fun k d hk hd => wf.2.2.2 k d (by omega) hd, fun q => absurd q (by show ¬ 0 ≤ (-1 : Int); omega), by show -1 ≤ (-1 : Int); omega, by show (-1 : Int) ≤ 26000; omega⟩ (fun k hk => absurd hk (by omega))
  refine ⟨h2, ?_, k2, fun k hk => ?_, SF.o3 k4 k5 (by decide) (by decide) (by decide)⟩
  · unfold f_X3_search
    rw [show f_X3_settle x 7 h 0 0 0 = _ from k1, Option.bind_some]
  · rw [k4 _ (by omega) (by omega) (by omega)]
    exact wf.2.2.1 k (by omega)
/-- which of them it is, from the first on -/
def ix_ (l : List Nat) (what : Int) (D : List Nat) : Nat → Nat → Int
  | 0, _ => -1
  | n + 1, k => if (l.getD k 0 : Nat) = what then (D.getD k 0 : Nat) else ix_ l what D n (k + 1)
theorem c_hf {x n : Nat} {h : XH} {l : List Nat} {W : Nat → Nat → Int} {S : Int × List Nat} {what : Int} (hw : -2147483648 ≤ what ∧ what < 2147483648) (hn : n ≤ 5) (hl : ∀ k, l.getD k 0 < 1000) (ps : PlS x h W n S) (h5 : ∀ k, k < n → h.1 (x + 55) k = jI (l.getD k 0 : Nat)) : f_X3_houseFor x h (jI what) = some (jI (if S.1 = -1 then -1 else ix_ l what S.2 n 0)) := by
  obtain ⟨s1, s2, s3, s4, s5, s6⟩ := ps
  unfold f_X3_houseFor
  have key := x_up0 (P := fun m k => f_X3_houseFor_2 x h m (jI what) (jI (k : Int)) = some (jI (if S.1 = -1 then -1 else ix_ l what S.2 (n - k) k))) n (by omega) (fun m => by
    rw [f_X3_houseFor_2, s1, if_pos ((jI_le (by omega) (by omega) (by omega) (by omega)).mpr (by omega)), Nat.sub_self]
    show _ = some (jI (if S.1 = -1 then -1 else -1))
    rw [ite_self]
    rfl) (fun m k hk ih => by
    have lb := hl k
    have e : n - k = (n - (k + 1)) + 1 := by omega
    rw [f_X3_houseFor_2, s1, if_neg (fun q => absurd ((jI_le (by omega) (by omega) (by omega) (by omega)).mp q) (by omega)), if_pos (jI_b (by omega) (by omega) (by omega)), nat_ (by omega), h5 k hk, s2, e]
    unfold ix_
    by_cases c : ((l.getD k 0 : Nat) : Int) = what
    · rw [if_pos (by rw [c]), if_pos c]
      by_cases d : S.1 = -1
      · rw [if_pos ((jm1 (by omega) (by omega)).mpr d), if_pos d]
        rfl
      · rw [if_neg (fun q => d ((jm1 (by omega) (by omega)).mp q)), if_neg d, if_pos (jI_b (by omega) (by omega) (by omega)), s4 (by omega) k hk]
    · rw [if_neg (fun q => c ((jI_eq (by omega) (by omega) hw.1 hw.2).mp q)), if_neg c, jI_s k]
      exact ih)
  exact key
/-! the reference: digits, the last one first -/
theorem r_435 {x H : Nat} {h : XH} {l : List Nat} {what : Int} (hH : h.1 (x + 65) 0 = jI H) (hH60 : H ≤ 6) (hw : -2147483648 ≤ what ∧ what < 2147483648) (hl : ∀ k, l.getD k 0 < 1000) : ∀ (n w m : Nat), n ≤ 5 → n < m → w < H ^ n → (∀ k, k < n → h.1 (x + 74) k = jI (l.getD k 0 : Nat)) → (∀ k k', k < n → k' < n → l.getD k 0 = l.getD k' 0 → k = k') → f_X12_plan_435 x m h (jI what) (jI w) (jI (n : Int) - 1) = some (jI (ix_ l what (dg_ H n w) n 0), h) := by
  intro n
  induction n with
  | zero =>
    intro w m _ hm _ _ _
    obtain ⟨m, rfl⟩ : ∃ m', m = m' + 1 := ⟨m - 1, by omega⟩
    rw [f_X12_plan_435, if_pos (by decide)]
    rfl
  | succ n ih =>
    intro w m hn hm hw' h74 inj
    obtain ⟨m, rfl⟩ : ∃ m', m = m' + 1 := ⟨m - 1, by omega⟩
    have hH6 : 1 ≤ H ∧ H ≤ 6 := ⟨by
      rcases Nat.eq_zero_or_pos H with e | e
      · rw [e, Nat.zero_pow (by omega)] at hw'
        omega
      · exact e, hH60⟩
    have hN : H ^ (n + 1) ≤ 7776 := by
      have : H ^ (n + 1) ≤ 6 ^ (n + 1) := Nat.pow_le_pow_left hH6.2 _
      have : 6 ^ (n + 1) ≤ 6 ^ 5 := Nat.pow_le_pow_right (by omega) hn
      omega
    have hwd : w / H < H ^ n := by
      rw [Nat.pow_succ, Nat.mul_comm] at hw'
      exact Nat.div_lt_of_lt_mul hw'
    have en : jI ((n + 1 : Nat) : Int) - 1 = jI (n : Int) := by
      rw [show (1 : Int32) = jI 1 from rfl, jI_sub]
      congr 1
      omega
    have z0 : (0 : Int32).toNatClampNeg = 0 := rfl
    have lb := hl n
    have hm0 : ¬ jI (H : Int) = (0 : Int32) := j_ne0 (by omega) (by omega) (by omega)
    rw [f_X12_plan_435, en, if_neg (fun q => absurd ((jlt0 (by omega) (by omega)).mp q) (by omega)), if_pos (jI_b (by omega) (by omega) (by omega)), nat_ (by omega), h74 n (by omega), if_pos (show x_b 0 6927 = true by decide), z0, hH, if_neg hm0]
    have gl : ∀ D : List Nat, ∀ b, D.length = n → ∀ j k, k + j ≤ n → ix_ l what (D ++ [b]) j k = ix_ l what D j k := fun D b hD j => by
      induction j with
      | zero => intros; rfl
      | succ j ihj =>
        intro k hk
        unfold ix_
        rw [gD_l (by omega), ihj (k + 1) (by omega)]
    have gs : ∀ D : List Nat, ∀ j k, ix_ l what D (j + 1) k = if ix_ l what D j k = -1 ∧ ((l.getD (k + j) 0 : Nat) : Int) = what ∧ (∀ i, i < j → ((l.getD (k + i) 0 : Nat) : Int) ≠ what) then ((D.getD (k + j) 0 : Nat) : Int) else ix_ l what D j k := fun D j => by
      induction j with
      | zero =>
        intro k
        unfold ix_
        show (if _ then _ else (-1 : Int)) = if (-1 : Int) = -1 ∧ _ ∧ _ then _ else (-1 : Int)
        by_cases c : ((l.getD k 0 : Nat) : Int) = what
        · rw [if_pos c, if_pos ⟨rfl, by rw [Nat.add_zero]; exact c, fun i hi => absurd hi (by omega)⟩, Nat.add_zero]
        · rw [if_neg c, if_neg (fun q => c (by have := q.2.1; rw [Nat.add_zero] at this; exact this))]
      | succ j ihj =>
        intro k
        rw [ix_, ihj (k + 1), show k + 1 + j = k + (j + 1) by omega]
        conv => rhs; rw [ix_]
        by_cases c : ((l.getD k 0 : Nat) : Int) = what
        · rw [if_pos c, if_pos c, if_neg (fun q => q.2.2 0 (by omega) (by rw [Nat.add_zero]; exact c))]
        · rw [if_neg c, if_neg c]
          by_cases d : ix_ l what D j (k + 1) = -1 ∧ ((l.getD (k + (j + 1)) 0 : Nat) : Int) = what ∧ ∀ i, i < j → ((l.getD (k + 1 + i) 0 : Nat) : Int) ≠ what
          · rw [if_pos d, if_pos ⟨d.1, d.2.1, fun i hi => by
              cases i with
              | zero => rw [Nat.add_zero]; exact c
              | succ i => have := d.2.2 i (by omega); rw [show k + (i + 1) = k + 1 + i by omega]; exact this⟩]
          · rw [if_neg d, if_neg (fun q => d ⟨q.1, q.2.1, fun i hi => by have := q.2.2 (i + 1) (by omega); rw [show k + 1 + i = k + (i + 1) by omega]; exact this⟩)]
    have nn : ∀ D : List Nat, ∀ j k, (∀ i, i < j → ((l.getD (k + i) 0 : Nat) : Int) ≠ what) → ix_ l what D j k = -1 := fun D j => by
      induction j with
      | zero => intros; rfl
      | succ j ihj =>
        intro k hk
        unfold ix_
        rw [if_neg (by have := hk 0 (by omega); rw [Nat.add_zero] at this; exact this)]
        exact ihj (k + 1) (fun i hi => by have := hk (i + 1) (by omega); rw [show k + 1 + i = k + (i + 1) by omega]; exact this)
    rw [dg_s n w hw', gs]
    by_cases c : ((l.getD n 0 : Nat) : Int) = what
    · have al : ∀ i, i < n → ((l.getD (0 + i) 0 : Nat) : Int) ≠ what := fun i hi q => by
        have := inj i n (by omega) (by omega) (by rw [Nat.zero_add] at q; omega)
        omega
      rw [if_pos (by rw [c]), if_pos ⟨nn _ n 0 al, by rw [Nat.zero_add]; exact c, al⟩, jI_rem (by omega) (by omega) (by omega) (by omega), Nat.zero_add]
      have e : (dg_ H n (w / H)).length = n := dg_l n _
      conv => rhs; rw [show (dg_ H n (w / H) ++ [w % H]).getD n 0 = (dg_ H n (w / H) ++ [w % H]).getD (dg_ H n (w / H)).length 0 by rw [e], gD_r]
      rfl
    · rw [if_neg (fun q => c ((jI_eq (by omega) (by omega) hw.1 hw.2).mp q)), if_pos (show x_b 0 6927 = true by decide), if_neg hm0, xl_, if_neg (fun q => c (by have := q.2.1; rw [Nat.zero_add] at this; exact this)), jI_div (by omega) (by omega) (by omega) (by omega), show jI (n : Int) + (-1 : Int32) = jI (n : Int) - 1 by rw [m1_, show (1 : Int32) = jI 1 from rfl, jI_sub, jI_add]; rfl, gl _ _ (dg_l n _) n 0 (by omega)]
      exact ih (w / H) m (by omega) (by omega) hwd (fun k hk => h74 k (by omega)) (fun k k' a b => inj k k' (by omega) (by omega))
/-- one number -/
theorem r_275 {x H n : Nat} {h : XH} {W : Nat → Nat → Int} {v5 v7 v8 v9 v10 v11 : Int32} {k249 : XH → Int32 → Int32 → Int32 → Int32 → Int32 → Int32 → Option (Int32 × XH)} (hH : h.1 (x + 65) 0 = jI H) (hH60 : (1 ≤ n → 1 ≤ H) ∧ H ≤ 6) (hn5 : n ≤ 5) (hW : ∀ k d, -1 ≤ W k d ∧ W k d ≤ 5200) (h75 : ∀ k d, k < n → d < H → h.1 (x + 75) (6 * k + d) = jI (W k d)) : ∀ (r left used m : Nat) (sum : Int) (each : Bool), r ≤ n → r < m → left < 10000 → used < 64 →
    f_X12_plan_275 k249 x m h v5 v7 v8 v9 v10 v11 (jI used) (jI sum) (jI left) (if each = true then 1 else 0) (jI (r : Int) - 1) = k249 h v5 v7 v8 (if (each && RC W (eg_ H r left) used) = true then (if v10 < jI (sum + SR W (eg_ H r left)) then v11 else v9) else v9) (if (each && RC W (eg_ H r left) used) = true then (if v10 < jI (sum + SR W (eg_ H r left)) then jI (sum + SR W (eg_ H r left)) else v10) else v10) (v11 + 1) := by
  intro r
  induction r with
  | zero =>
    intro left used m sum each _ hm _ _
    obtain ⟨m, rfl⟩ : ∃ m', m = m' + 1 := ⟨m - 1, by omega⟩
    rw [f_X12_plan_275, if_pos (by decide)]
    show _ = k249 h v5 v7 v8 (if (each && true) = true then (if v10 < jI (sum + 0) then v11 else v9) else v9) (if (each && true) = true then (if v10 < jI (sum + 0) then jI (sum + 0) else v10) else v10) (v11 + 1)
    rw [Bool.and_true, Int.add_zero]
    cases each <;> simp
  | succ r ih =>
    intro left used m sum each hr hm hl hu
    obtain ⟨m, rfl⟩ : ∃ m', m = m' + 1 := ⟨m - 1, by omega⟩
    have hH6 : 1 ≤ H ∧ H ≤ 6 := ⟨hH60.1 (by omega), hH60.2⟩
    have en : jI ((r + 1 : Nat) : Int) - 1 = jI (r : Int) := by
      rw [show (1 : Int32) = jI 1 from rfl, jI_sub]
      congr 1
      omega
    have em : jI (r : Int) + (-1 : Int32) = jI (r : Int) - 1 := by
      rw [m1_, show (1 : Int32) = jI 1 from rfl, jI_sub, jI_add]
      rfl
    have z0 : (0 : Int32).toNatClampNeg = 0 := rfl
    have hm0 : ¬ jI (H : Int) = (0 : Int32) := j_ne0 (by omega) (by omega) (by omega)
    have dl : left % H < H := Nat.mod_lt _ (by omega)
    have dv : left / H ≤ left := Nat.div_le_self _ _
    have wb := hW r (left % H)
    have oj := oj_6 hu (show left % H < 6 by omega)
    have e1 : x_rem (jI (left : Int)) (jI (H : Int)) = jI ((left % H : Nat) : Int) := by
      rw [jI_rem (by omega) (by omega) (by omega) (by omega)]
      rfl
    have e2 : jI (left : Int) / jI (H : Int) = jI ((left / H : Nat) : Int) := by
      rw [jI_div (by omega) (by omega) (by omega) (by omega)]
      rfl
    have ix : 6 * jI (r : Int) + jI ((left % H : Nat) : Int) = jI ((6 * r + left % H : Nat) : Int) := by
      rw [show (6 : Int32) = jI 6 from rfl, jI_mul, jI_add]
      rfl
    have hb : x_b (jI ((6 * r + left % H : Nat) : Int)) 48 = true := jI_b (by omega) (by omega) (by omega)
    have eW := h75 r (left % H) (by omega) dl
    have lr : (eg_ H r (left / H)).length = r := eg_l r _
    rw [f_X12_plan_275, en, if_neg (fun q => absurd ((jlt0 (by omega) (by omega)).mp q) (by omega)), if_pos (show x_b 0 6927 = true by decide), z0, hH, if_neg hm0, xl_, if_pos (show x_b 0 6927 = true by decide), if_neg hm0, xl_, e1, e2]
    show _ = k249 h v5 v7 v8 (if (each && ((!used.testBit (left % H) && decide (0 ≤ W (eg_ H r (left / H)).length (left % H))) && RC W (eg_ H r (left / H)) (used ||| 2 ^ (left % H)))) = true then (if v10 < jI (sum + (W (eg_ H r (left / H)).length (left % H) + SR W (eg_ H r (left / H)))) then v11 else v9) else v9) (if (each && ((!used.testBit (left % H) && decide (0 ≤ W (eg_ H r (left / H)).length (left % H))) && RC W (eg_ H r (left / H)) (used ||| 2 ^ (left % H)))) = true then (if v10 < jI (sum + (W (eg_ H r (left / H)).length (left % H) + SR W (eg_ H r (left / H)))) then jI (sum + (W (eg_ H r (left / H)).length (left % H) + SR W (eg_ H r (left / H)))) else v10) else v10) (v11 + 1)
    rw [lr]
    have nx : ∀ ec : Bool, ec = (each && (!used.testBit (left % H) && decide (0 ≤ W r (left % H)))) → f_X12_plan_275 k249 x m h v5 v7 v8 v9 v10 v11 (jI ((used ||| 2 ^ (left % H) : Nat) : Int)) (jI (sum + W r (left % H))) (jI ((left / H : Nat) : Int)) (if ec = true then 1 else 0) (jI (r : Int) - 1) = k249 h v5 v7 v8 (if (each && ((!used.testBit (left % H) && decide (0 ≤ W r (left % H))) && RC W (eg_ H r (left / H)) (used ||| 2 ^ (left % H)))) = true then (if v10 < jI (sum + (W r (left % H) + SR W (eg_ H r (left / H)))) then v11 else v9) else v9) (if (each && ((!used.testBit (left % H) && decide (0 ≤ W r (left % H))) && RC W (eg_ H r (left / H)) (used ||| 2 ^ (left % H)))) = true then (if v10 < jI (sum + (W r (left % H) + SR W (eg_ H r (left / H)))) then jI (sum + (W r (left % H) + SR W (eg_ H r (left / H)))) else v10) else v10) (v11 + 1) := fun ec he => by
      rw [ih (left / H) (used ||| 2 ^ (left % H)) m (sum + W r (left % H)) ec (by omega) (by omega) (by omega) oj.2, he, Bool.and_assoc, Int.add_assoc]
    have f7 : f_X12_plan_337 k249 (f_X12_plan_275 k249 x m) x h v5 v7 v8 v9 v10 v11 (jI used) (jI sum) (jI ((left / H : Nat) : Int)) (jI (r : Int)) (jI ((left % H : Nat) : Int)) = f_X12_plan_275 k249 x m h v5 v7 v8 v9 v10 v11 (jI ((used ||| 2 ^ (left % H) : Nat) : Int)) (jI (sum + W r (left % H))) (jI ((left / H : Nat) : Int)) (if false = true then 1 else 0) (jI (r : Int) - 1) := by
      unfold f_X12_plan_337 f_X12_plan_338
      rw [ix, if_pos hb, xl_, nat_ (by omega), eW, jI_add, oj.1, em]
      rfl
    cases hea : each
    · rw [if_neg (show ¬ false = true by decide), if_pos rfl, f7]
      rw [hea] at nx
      exact nx false rfl
    · rw [if_pos rfl, if_neg (show ¬ (1 : Int32) = 0 by decide), bi_at (by omega), bi_n (by omega) (by omega)]
      rw [hea] at nx
      by_cases b : used.testBit (left % H) = true
      · rw [if_pos b, if_neg (show ¬ (1 : Int32) = 0 by decide), f7]
        exact nx false (by rw [b]; rfl)
      · rw [if_neg b, if_pos rfl, ix, if_pos hb, nat_ (by omega), eW, xl_, if_pos hb, xl_, jI_add, oj.1, em]
        have b' : used.testBit (left % H) = false := by simpa using b
        by_cases c : 0 ≤ W r (left % H)
        · rw [if_neg (fun q => absurd ((jlt0 (by omega) (by omega)).mp q) (by omega))]
          exact nx true (by rw [b', decide_eq_true c]; rfl)
        · rw [if_pos ((jlt0 (by omega) (by omega)).mpr (by omega))]
          exact nx false (by rw [b', decide_eq_false c]; rfl)
theorem SR_b {W : Nat → Nat → Int} (hW : ∀ k d, -1 ≤ W k d ∧ W k d ≤ 5200) : ∀ l : List Nat, -(l.length : Int) ≤ SR W l ∧ SR W l ≤ 5200 * (l.length : Int) := by
  intro l
  induction l with
  | nil => exact ⟨by show -((0 : Nat) : Int) ≤ 0; omega, by show (0 : Int) ≤ 5200 * ((0 : Nat) : Int); omega⟩
  | cons d l ih =>
    have := hW l.length d
    have e : (d :: l).length = l.length + 1 := rfl
    rw [e, Int.natCast_add]
    show _ ≤ W l.length d + SR W l ∧ W l.length d + SR W l ≤ _
    omega
theorem fw_b {W : Nat → Nat → Int} {H n : Nat} (hn : n ≤ 5) (hW : ∀ k d, -1 ≤ W k d ∧ W k d ≤ 5200) : ∀ w, w ≤ H ^ n → (fw_ W H n w).1 ≤ 26000 := by
  intro w
  induction w with
  | zero => intro _; show (-1 : Int) ≤ 26000; omega
  | succ w ih =>
    intro hw
    have := ih (by omega)
    unfold fw_
    split
    · show SU W (dg_ H n w) 0 ≤ 26000
      rw [← eg_r n w (by omega), ← SR_e]
      have b := SR_b hW (eg_ H n w)
      rw [eg_l] at b
      omega
    · exact this
/-- all numbers -/
theorem r_249 {x H n : Nat} {h : XH} {W : Nat → Nat → Int} {v5 : Int32} (hH : h.1 (x + 65) 0 = jI H) (hH6 : H ≤ 6) (hn5 : n ≤ 5) (hW : ∀ k d, -1 ≤ W k d ∧ W k d ≤ 5200) (h75 : ∀ k d, k < n → d < H → h.1 (x + 75) (6 * k + d) = jI (W k d)) :
    f_X12_plan_249 x x_FU h v5 (jI n) (jI ((H ^ n : Nat) : Int)) (-1) (-1) 0 = if jI (fw_ W H n (H ^ n)).2 < 0 then f_X12_plan_413 x h (jI (fw_ W H n (H ^ n)).2) (jI (fw_ W H n (H ^ n)).1) else if v5 = (-1) then f_X12_plan_413 x h (jI (fw_ W H n (H ^ n)).2) (jI (fw_ W H n (H ^ n)).1) else f_X12_plan_435 x x_FU h v5 (jI (fw_ W H n (H ^ n)).2) (jI n - 1) := by
  have hN : H ^ n ≤ 7776 := by
    have : H ^ n ≤ 6 ^ n := Nat.pow_le_pow_left hH6 _
    have : 6 ^ n ≤ 6 ^ 5 := Nat.pow_le_pow_right (by omega) hn5
    omega
  generalize hq : H ^ n = N at hN
  have key := x_up0 (P := fun m w => f_X12_plan_249 x m h v5 (jI n) (jI (N : Int)) (jI (fw_ W H n w).2) (jI (fw_ W H n w).1) (jI (w : Int)) = if jI (fw_ W H n N).2 < 0 then f_X12_plan_413 x h (jI (fw_ W H n N).2) (jI (fw_ W H n N).1) else if v5 = (-1) then f_X12_plan_413 x h (jI (fw_ W H n N).2) (jI (fw_ W H n N).1) else f_X12_plan_435 x x_FU h v5 (jI (fw_ W H n N).2) (jI n - 1)) N (by omega) (fun m => by
    rw [f_X12_plan_249, if_pos ((jI_le (by omega) (by omega) (by omega) (by omega)).mpr (by omega))]) (fun m w hw ih => by
    have r := fw_r (W := W) (H := H) (n := n) w
    have h1H : 1 ≤ n → 1 ≤ H := fun q => by
      rcases Nat.eq_zero_or_pos H with e | e
      · rw [e, Nat.zero_pow (by omega)] at hq
        omega
      · exact e
    have ub := fw_b (W := W) (H := H) (n := n) hn5 hW w (by omega)
    have r2 := r.2.1
    rw [f_X12_plan_249, if_neg (fun q => absurd ((jI_le (by omega) (by omega) (by omega) (by omega)).mp q) (by omega))]
    have s := r_275 (v5 := v5) (v7 := jI (n : Int)) (v8 := jI (N : Int)) (v9 := jI (fw_ W H n w).2) (v10 := jI (fw_ W H n w).1) (v11 := jI (w : Int)) (k249 := f_X12_plan_249 x m) hH ⟨h1H, hH6⟩ hn5 hW h75 n w 0 x_FU 0 true (Nat.le_refl _) (by show n < 100000; omega) (by omega) (by omega)
    rw [if_pos rfl, Bool.true_and, Int.zero_add] at s
    rw [show f_X12_plan_275 (f_X12_plan_249 x m) x x_FU h v5 (jI (n : Int)) (jI (N : Int)) (jI (fw_ W H n w).2) (jI (fw_ W H n w).1) (jI (w : Int)) 0 0 (jI (w : Int)) 1 (jI (n : Int) - 1) = _ from s, RC_e, SR_e, eg_r n w (by omega), ← ih, jI_s w]
    have b := SR_b hW (eg_ H n w)
    rw [eg_l, SR_e, eg_r n w (by omega)] at b
    have lt : jI (fw_ W H n w).1 < jI (SU W (dg_ H n w) 0) ↔ (fw_ W H n w).1 < SU W (dg_ H n w) 0 := jI_lt (by omega) (by omega) (by omega) (by omega)
    conv => rhs; unfold fw_
    by_cases c : VA W (dg_ H n w) 0 0 = true
    · by_cases d : (fw_ W H n w).1 < SU W (dg_ H n w) 0
      · rw [if_pos c, if_pos c, if_pos (lt.mpr d), if_pos (lt.mpr d), if_pos ⟨c, d⟩]
      · rw [if_pos c, if_pos c, if_neg (fun q => d (lt.mp q)), if_neg (fun q => d (lt.mp q)), if_neg (fun q => d q.2)]
    · rw [if_neg c, if_neg c, if_neg (fun q => c q.1)])
  exact key
theorem r_216 {x H n : Nat} {h : XH} {v5 : Int32} (hH' : h.1 (x + 65) 0 = jI H) (hn5 : n ≤ 5) : f_X12_plan_216 x x_FU h v5 (jI n) 1 0 = f_X12_plan_249 x x_FU h v5 (jI n) (jI ((H ^ n : Nat) : Int)) (-1) (-1) 0 := by
  have z0 : (0 : Int32).toNatClampNeg = 0 := rfl
  have key := x_up0 (P := fun m i => f_X12_plan_216 x m h v5 (jI n) (jI ((H ^ i : Nat) : Int)) (jI (i : Int)) = f_X12_plan_249 x x_FU h v5 (jI n) (jI ((H ^ n : Nat) : Int)) (-1) (-1) 0) n (by omega) (fun m => by
    rw [f_X12_plan_216, if_pos ((jI_le (by omega) (by omega) (by omega) (by omega)).mpr (by omega))]) (fun m i hi ih => by
    rw [f_X12_plan_216, if_neg (fun q => absurd ((jI_le (by omega) (by omega) (by omega) (by omega)).mp q) (by omega)), if_pos (show x_b 0 6927 = true by decide), z0, hH', xl_, jI_mul, jI_s i]
    exact ih)
  exact key
