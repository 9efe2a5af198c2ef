/-! ===== rows 2 and 3: law, rule ===== -/
/-- the heap of the component after a text was made -/
def kc9 (h : XH) (x n i el : Nat) : XH := x_cf (x_cf (x_cf (x_cf h (n + 1) (x + 5) i) (n + 2) (x + 6) i) (n + 3) (x + 7) i) (n + 4) (x + 8) el
theorem cf_s {h : XH} {n a N k : Nat} (hk : k < N) : (x_cf h n a N).1 n k = h.1 a k := by
  show (if n = n then (if k < N then h.1 a k else 0) else h.1 n k) = _
  rw [if_pos rfl, if_pos hk]
theorem cf_n {h : XH} {n a N b : Nat} (hb : b ≠ n) : (x_cf h n a N).1 b = h.1 b ∧ (x_cf h n a N).2.2 b = h.2.2 b := by
  refine ⟨?_, ?_⟩
  · funext k
    show (if b = n then (if k < N then h.1 a k else 0) else h.1 b k) = _
    rw [if_neg hb]
  · funext k
    show (if b = n then none else h.2.2 b k) = _
    rw [if_neg hb]
theorem kc9_lo {h : XH} {x n i el a : Nat} (ha : a ≤ n) : (kc9 h x n i el).1 a = h.1 a ∧ (kc9 h x n i el).2.2 a = h.2.2 a := by
  unfold kc9
  refine ⟨?_, ?_⟩
  · rw [(cf_n (by omega)).1, (cf_n (by omega)).1, (cf_n (by omega)).1, (cf_n (by omega)).1]
  · rw [(cf_n (by omega)).2, (cf_n (by omega)).2, (cf_n (by omega)).2, (cf_n (by omega)).2]
theorem kc9_1 {h : XH} {x n i el k : Nat} (hn : x + 77 ≤ n) (hk : k < i) : (kc9 h x n i el).1 (n + 1) k = h.1 (x + 5) k := by
  unfold kc9
  rw [(cf_n (by omega)).1, (cf_n (by omega)).1, (cf_n (by omega)).1, cf_s hk]
theorem kc9_2 {h : XH} {x n i el k : Nat} (hn : x + 77 ≤ n) (hk : k < i) : (kc9 h x n i el).1 (n + 2) k = h.1 (x + 6) k := by
  unfold kc9
  rw [(cf_n (by omega)).1, (cf_n (by omega)).1, cf_s hk, (cf_n (by omega)).1]
theorem kc9_3 {h : XH} {x n i el k : Nat} (hn : x + 77 ≤ n) (hk : k < i) : (kc9 h x n i el).1 (n + 3) k = h.1 (x + 7) k := by
  unfold kc9
  rw [(cf_n (by omega)).1, cf_s hk, (cf_n (by omega)).1, (cf_n (by omega)).1]
theorem kc9_4 {h : XH} {x n i el k : Nat} (hn : x + 77 ≤ n) (hk : k < el) : (kc9 h x n i el).1 (n + 4) k = h.1 (x + 8) k := by
  unfold kc9
  rw [cf_s hk, (cf_n (by omega)).1, (cf_n (by omega)).1, (cf_n (by omega)).1]
def kk9 (K : XK) (n i el : Nat) : XK := x_kl K n [(11, 0), (14, i), (14, i), (14, i), (14, el)]
/-- what the component's read answers -/
theorem c_rd1 {x n : Nat} {K : XK} {h cf : XH} {v : Int32} (hP : f_X8_readP x h v = some (1, cf)) : f_X8_read K x n h v = some (none, K, cf) := by
  unfold f_X8_read
  rw [hP, Option.bind_some, if_pos rfl]
theorem c_rd0 {x n i el : Nat} {K : XK} {h cf : XH} {v : Int32} (hP : f_X8_readP x h v = some (0, cf)) (q10 : cf.1 (x + 1) 10 = jI (i : Int)) (q11 : cf.1 (x + 1) 11 = jI (el : Int)) (hi : i ≤ 10) (he : el ≤ 400) : f_X8_read K x n h v = some (some n, kk9 K n i el, kc9 cf x n i el) := by
  unfold f_X8_read
  rw [hP, Option.bind_some, if_neg (show ¬ (0 : Int32) = 1 by decide)]
  dsimp only
  rw [q10, q11, if_pos (jI_b (by omega) (by omega) (by omega)), if_pos (jI_b (by omega) (by omega) (by omega)), nat_ (by omega), nat_ (by omega)]
  rfl
/-- the row, from what both sides answer -/
def rt9 (x : Nat) (oL : Option (Int32 × XK × XH)) (kR : XH → Option (Int32 × XH)) : Option (XK × XH) := Option.bind oL (fun q1 => Option.bind (kR q1.2.2) (fun q2 => if (f_X12_thrown x q2.2) = q1.1 then if q1.1 = 0 then if x_b 0 1 = true then if (lg_cmp (q2.2.2.1 (x + 76) (0 : Int32).toNatClampNeg) q2.1.toInt64) = 0 then some (q1.2.1, q2.2) else none else none else some (q1.2.1, q2.2) else none))
theorem rt9_e {x j e : Nat} {oC : Option ((Nat ⊕ Int32) × XK × XH)} {hs : List Nat} {k : Int32 → XH → XH} {kR : XH → Option (Int32 × XH)} {K' : XK} {h1 h2 : XH} {r : Int32} (hC : oC = some (.inl e, K', h1)) (hj : hs.idxOf? e = some j) (hl : j < 5) (hR : kR h1 = some (r, h2)) (ht : h2.1 (x + 64) 0 = nI (j + 1)) : rt9 x (x_lbK oC hs k) kR = some (K', h2) := by
  subst hC
  have hn : ¬ nI (j + 1) = 0 := nI_ne0 (by omega) (by omega)
  simp only [rt9, x_lbK, lb_e hj, Option.bind_some, hR, f_X12_thrown, ht, if_true, if_neg hn]
theorem rt9_v {x : Nat} {oC : Option ((Nat ⊕ Int32) × XK × XH)} {hs : List Nat} {kR : XH → Option (Int32 × XH)} {K' : XK} {h1 h2 : XH} {v : Int32} (hC : oC = some (.inr v, K', h1)) (hR : kR (x_l h1 (x + 76) (0 : Int32).toNatClampNeg v.toInt64) = some (v, h2)) (ht : h2.1 (x + 64) 0 = 0) (ho : h2.2.1 = (x_l h1 (x + 76) (0 : Int32).toNatClampNeg v.toInt64).2.1) : rt9 x (x_lbK oC hs (fun v h => x_l h (x + 76) (0 : Int32).toNatClampNeg v.toInt64)) kR = some (K', h2) := by
  subst hC
  have e : h2.2.1 (x + 76) (0 : Int32).toNatClampNeg = v.toInt64 := by rw [ho, gl2, if_pos ⟨rfl, rfl⟩]
  simp only [rt9, x_lbK, lb_v, Option.bind_some, hR, f_X12_thrown, ht, if_true, e, cmp_s]
  rfl
theorem P_row2 {gh : Nat} {x : Nat} {K : XK} {h : XH} (T : x_T x K h) (I : Inv gh x K h) {n : Nat} (hz : ∀ q, n ≤ q → (K q).1 = 0) (hn : x + 77 ≤ n) : ∃ (K' : XK) (h' : XH), f_row2 K x n h = some (K', h') ∧ Inv gh x K' h' := by
  show ∃ (K' : XK) (h' : XH), rt9 x (x_lbK (f_X11_law K x n h) [1, 3] _) (fun H => f_X12_law x H) = some (K', h') ∧ Inv gh x K' h'
  obtain ⟨hW, hS, -, -⟩ := id I
  have w0 : 0 ≤ wd x h 2 := hW.1.2.2.2.2.1
  have w3 : wd x h 2 ≤ 3 := hW.1.2.2.2.2.2.1
  have cv : h.1 (x + 9) 8 = jI (wd x h 2) := hS.1.2.2.2.2.1
  rcases rp_tot I false with ⟨cf, hP⟩ | ⟨cf, hP⟩
  · obtain ⟨h', a1, a2, a3⟩ := rd_A (v2 := jI ((2 : Nat) : Int)) (v3 := jI 0) (v4 := 3) T I hz hn false hP
    have cC : f_X11_law K x n h = some (.inl 1, K, cf) := by
      unfold f_X11_law
      rw [show f_X8_read K x n h 1 = _ from c_rd1 hP]
      rfl
    refine ⟨K, h', rt9_e (j := 0) (r := 0) cC (by decide) (by omega) ?_ (by rw [a2]; rfl), a3⟩
    show Option.bind (f_X12_keeps x cf (bb9 false) (jI ((2 : Nat) : Int)) (jI 0) 3) _ = _
    rw [a1]
    rfl
  · obtain ⟨i', el, hi, he, q10, q11⟩ := rp_ie I false hP
    obtain ⟨g1, g2, g3⟩ := rp_fr I false hP
    have cr : f_X8_read K x n h (bb9 (!false)) = some (some n, kk9 K n i' el, kc9 cf x n i' el) := c_rd0 hP q10 q11 hi he
    have cv' : (kc9 cf x n i' el).1 (x + 9) 8 = jI (wd x h 2) := by rw [(kc9_lo (by omega)).1, g1 _ (by omega) (by omega) (by omega) (by omega) (by omega) (by omega) (by omega)]; exact cv
    by_cases c : wd x h 2 = 3
    · have cC : f_X11_law K x n h = some (.inl 3, kk9 K n i' el, kc9 cf x n i' el) := by
        unfold f_X11_law
        rw [show f_X8_read K x n h 1 = _ from cr, Option.bind_some]
        dsimp only
        unfold f_X11_law_9 x_opt
        dsimp only
        rw [cv', c, if_neg (show ¬ jI 3 < (3 : Int32) by decide)]
        rfl
      obtain ⟨h', a1, a2, a3⟩ := rd_B (v2 := 2) (v3 := jI 0) (K' := kk9 K n i' el) (H := kc9 cf x n i' el) T I hz hn false hP (fun a q => (kc9_lo (by omega)).1) (fun a q => (kc9_lo (by omega)).2) (fun a q => kl_lo q) (by omega) c
      refine ⟨_, h', rt9_e (j := 1) (r := 0) cC (by decide) (by omega) ?_ (by rw [a2]; rfl), a3⟩
      show Option.bind (f_X12_keeps x (kc9 cf x n i' el) (bb9 false) (jI ((2 : Nat) : Int)) (jI 0) 3) _ = _
      rw [a1]
      rfl
    · obtain ⟨cn, hc⟩ : ∃ cn : Nat, wd x h 2 = cn := ⟨(wd x h 2).toNat, by omega⟩
      have c3 : cn < 3 := by omega
      have cC : f_X11_law K x n h = some (.inr (jI (cn : Int)), kk9 K n i' el, x_i (x_r (kc9 cf x n i' el) (x + 14) cn (some n)) (x + 9) 8 (jI ((cn : Int) + 1))) := by
        unfold f_X11_law
        rw [show f_X8_read K x n h 1 = _ from cr, Option.bind_some]
        dsimp only
        unfold f_X11_law_9 x_opt
        dsimp only
        have e3 : (x_r (kc9 cf x n i' el) (x + 14) cn (some n)).1 (x + 9) 8 = jI (wd x h 2) := cv'
        rw [cv', hc, if_pos (show jI (cn : Int) < (3 : Int32) from (jI_lt (b := 3) (by omega) (by omega) (by omega) (by omega)).mpr (by omega)), if_pos (jI_b (by omega) (by omega) (by omega)), xl_, nat_ (by omega), e3, hc, show (1 : Int32) = jI 1 from rfl, jI_add, xl_, gi_s, jI_sub, show (cn : Int) + 1 - 1 = cn by omega, Option.bind_some]
      obtain ⟨h', a1, a2, a3, a4⟩ := rd_CL (K' := kk9 K n i' el) (H := x_l (x_i (x_r (kc9 cf x n i' el) (x + 14) cn (some n)) (x + 9) 8 (jI ((cn : Int) + 1))) (x + 76) (0 : Int32).toNatClampNeg (jI (cn : Int)).toInt64) T I hz hn hP q10 q11 hi he hc c3
        (fun a q1 q2 => by show (x_i (x_r (kc9 cf x n i' el) (x + 14) cn (some n)) (x + 9) 8 (jI ((cn : Int) + 1))).1 a = _; rw [gi_n q2]; exact (kc9_lo (by omega)).1)
        (fun k hk => by show (x_i (x_r (kc9 cf x n i' el) (x + 14) cn (some n)) (x + 9) 8 (jI ((cn : Int) + 1))).1 (x + 9) k = _; rw [gi_k hk]; exact congrFun (kc9_lo (by omega)).1 k)
        (by show (x_i (x_r (kc9 cf x n i' el) (x + 14) cn (some n)) (x + 9) 8 (jI ((cn : Int) + 1))).1 (x + 9) 8 = _; rw [gi_s])
        (fun k hk => by show (x_i (x_r (kc9 cf x n i' el) (x + 14) cn (some n)) (x + 9) 8 (jI ((cn : Int) + 1))).1 (n + 1) k = _; rw [gi_a (by omega)]; exact kc9_1 hn hk)
        (fun k hk => by show (x_i (x_r (kc9 cf x n i' el) (x + 14) cn (some n)) (x + 9) 8 (jI ((cn : Int) + 1))).1 (n + 2) k = _; rw [gi_a (by omega)]; exact kc9_2 hn hk)
        (fun k hk => by show (x_i (x_r (kc9 cf x n i' el) (x + 14) cn (some n)) (x + 9) 8 (jI ((cn : Int) + 1))).1 (n + 3) k = _; rw [gi_a (by omega)]; exact kc9_3 hn hk)
        (fun k hk => by show (x_i (x_r (kc9 cf x n i' el) (x + 14) cn (some n)) (x + 9) 8 (jI ((cn : Int) + 1))).1 (n + 4) k = _; rw [gi_a (by omega)]; exact kc9_4 hn hk)
        (fun a q1 q2 => by
          funext k
          show (x_r (kc9 cf x n i' el) (x + 14) cn (some n)).2.2 a k = _
          rw [gr_, if_neg (by omega), (kc9_lo (by omega)).2])
        (fun k hk => by
          show (x_r (kc9 cf x n i' el) (x + 14) cn (some n)).2.2 (x + 9 + 5) k = _
          rw [gr_, if_neg (by omega), (kc9_lo (by omega)).2])
        (by
          show (x_r (kc9 cf x n i' el) (x + 14) cn (some n)).2.2 (x + 9 + 5) cn = _
          rw [gr_, if_pos ⟨by omega, rfl⟩])
        (fun a q => kl_lo q) (kl_in (j := 0) rfl) (kl_in (j := 1) rfl) (kl_in (j := 2) rfl) (kl_in (j := 3) rfl) (kl_in (j := 4) rfl)
      refine ⟨_, h', rt9_v cC ?_ a2 a3, a4⟩
      show Option.bind (f_X12_keeps x _ (bb9 false) (jI ((2 : Nat) : Int)) (jI 0) 3) _ = _
      rw [a1]
      rfl
theorem P_row3 {gh : Nat} {x : Nat} {K : XK} {h : XH} (T : x_T x K h) (I : Inv gh x K h) {n : Nat} (hz : ∀ q, n ≤ q → (K q).1 = 0) (hn : x + 77 ≤ n) : ∃ (K' : XK) (h' : XH), f_row3 K x n h = some (K', h') ∧ Inv gh x K' h' := by
  show ∃ (K' : XK) (h' : XH), rt9 x (x_lbK (f_X11_rule K x n h) [1, 3] _) (fun H => f_X12_rule x H) = some (K', h') ∧ Inv gh x K' h'
  obtain ⟨hW, hS, -, -⟩ := id I
  have w0 : 0 ≤ wd x h 3 := hW.1.2.2.2.2.2.2.1
  have w3 : wd x h 3 ≤ 3 := hW.1.2.2.2.2.2.2.2.1
  have cv : h.1 (x + 9) 10 = jI (wd x h 3) := hS.1.2.2.2.2.2.1
  rcases rp_tot I true with ⟨cf, hP⟩ | ⟨cf, hP⟩
  · obtain ⟨h', a1, a2, a3⟩ := rd_A (v2 := jI ((3 : Nat) : Int)) (v3 := jI 3) (v4 := 3) T I hz hn true hP
    have cC : f_X11_rule K x n h = some (.inl 1, K, cf) := by
      unfold f_X11_rule
      rw [show f_X8_read K x n h 0 = _ from c_rd1 hP]
      rfl
    refine ⟨K, h', rt9_e (j := 0) (r := 0) cC (by decide) (by omega) ?_ (by rw [a2]; rfl), a3⟩
    show Option.bind (f_X12_keeps x cf (bb9 true) (jI ((3 : Nat) : Int)) (jI 3) 3) _ = _
    rw [a1]
    rfl
  · obtain ⟨i', el, hi, he, q10, q11⟩ := rp_ie I true hP
    obtain ⟨g1, g2, g3⟩ := rp_fr I true hP
    have cr : f_X8_read K x n h (bb9 (!true)) = some (some n, kk9 K n i' el, kc9 cf x n i' el) := c_rd0 hP q10 q11 hi he
    have cv' : (kc9 cf x n i' el).1 (x + 9) 10 = jI (wd x h 3) := by rw [(kc9_lo (by omega)).1, g1 _ (by omega) (by omega) (by omega) (by omega) (by omega) (by omega) (by omega)]; exact cv
    by_cases c : wd x h 3 = 3
    · have cC : f_X11_rule K x n h = some (.inl 3, kk9 K n i' el, kc9 cf x n i' el) := by
        unfold f_X11_rule
        rw [show f_X8_read K x n h 0 = _ from cr, Option.bind_some]
        dsimp only
        unfold f_X11_rule_9 x_opt
        dsimp only
        rw [cv', c, if_neg (show ¬ jI 3 < (3 : Int32) by decide)]
        rfl
      obtain ⟨h', a1, a2, a3⟩ := rd_B (v2 := 3) (v3 := jI 3) (K' := kk9 K n i' el) (H := kc9 cf x n i' el) T I hz hn true hP (fun a q => (kc9_lo (by omega)).1) (fun a q => (kc9_lo (by omega)).2) (fun a q => kl_lo q) (by omega) c
      refine ⟨_, h', rt9_e (j := 1) (r := 0) cC (by decide) (by omega) ?_ (by rw [a2]; rfl), a3⟩
      show Option.bind (f_X12_keeps x (kc9 cf x n i' el) (bb9 true) (jI ((3 : Nat) : Int)) (jI 3) 3) _ = _
      rw [a1]
      rfl
    · obtain ⟨cn, hc⟩ : ∃ cn : Nat, wd x h 3 = cn := ⟨(wd x h 3).toNat, by omega⟩
      have c3 : cn < 3 := by omega
      have cC : f_X11_rule K x n h = some (.inr (jI (cn : Int)), kk9 K n i' el, x_i (x_r (kc9 cf x n i' el) (x + 15) cn (some n)) (x + 9) 10 (jI ((cn : Int) + 1))) := by
        unfold f_X11_rule
        rw [show f_X8_read K x n h 0 = _ from cr, Option.bind_some]
        dsimp only
        unfold f_X11_rule_9 x_opt
        dsimp only
        have e3 : (x_r (kc9 cf x n i' el) (x + 15) cn (some n)).1 (x + 9) 10 = jI (wd x h 3) := cv'
        rw [cv', hc, if_pos (show jI (cn : Int) < (3 : Int32) from (jI_lt (b := 3) (by omega) (by omega) (by omega) (by omega)).mpr (by omega)), if_pos (jI_b (by omega) (by omega) (by omega)), xl_, nat_ (by omega), e3, hc, show (1 : Int32) = jI 1 from rfl, jI_add, xl_, gi_s, jI_sub, show (cn : Int) + 1 - 1 = cn by omega, Option.bind_some]
      obtain ⟨h', a1, a2, a3, a4⟩ := rd_CR (K' := kk9 K n i' el) (H := x_l (x_i (x_r (kc9 cf x n i' el) (x + 15) cn (some n)) (x + 9) 10 (jI ((cn : Int) + 1))) (x + 76) (0 : Int32).toNatClampNeg (jI (cn : Int)).toInt64) T I hz hn hP q10 q11 hi he hc c3
        (fun a q1 q2 => by show (x_i (x_r (kc9 cf x n i' el) (x + 15) cn (some n)) (x + 9) 10 (jI ((cn : Int) + 1))).1 a = _; rw [gi_n q2]; exact (kc9_lo (by omega)).1)
        (fun k hk => by show (x_i (x_r (kc9 cf x n i' el) (x + 15) cn (some n)) (x + 9) 10 (jI ((cn : Int) + 1))).1 (x + 9) k = _; rw [gi_k hk]; exact congrFun (kc9_lo (by omega)).1 k)
        (by show (x_i (x_r (kc9 cf x n i' el) (x + 15) cn (some n)) (x + 9) 10 (jI ((cn : Int) + 1))).1 (x + 9) 10 = _; rw [gi_s])
        (fun k hk => by show (x_i (x_r (kc9 cf x n i' el) (x + 15) cn (some n)) (x + 9) 10 (jI ((cn : Int) + 1))).1 (n + 1) k = _; rw [gi_a (by omega)]; exact kc9_1 hn hk)
        (fun k hk => by show (x_i (x_r (kc9 cf x n i' el) (x + 15) cn (some n)) (x + 9) 10 (jI ((cn : Int) + 1))).1 (n + 2) k = _; rw [gi_a (by omega)]; exact kc9_2 hn hk)
        (fun k hk => by show (x_i (x_r (kc9 cf x n i' el) (x + 15) cn (some n)) (x + 9) 10 (jI ((cn : Int) + 1))).1 (n + 3) k = _; rw [gi_a (by omega)]; exact kc9_3 hn hk)
        (fun k hk => by show (x_i (x_r (kc9 cf x n i' el) (x + 15) cn (some n)) (x + 9) 10 (jI ((cn : Int) + 1))).1 (n + 4) k = _; rw [gi_a (by omega)]; exact kc9_4 hn hk)
        (fun a q1 q2 => by
          funext k
          show (x_r (kc9 cf x n i' el) (x + 15) cn (some n)).2.2 a k = _
          rw [gr_, if_neg (by omega), (kc9_lo (by omega)).2])
        (fun k hk => by
          show (x_r (kc9 cf x n i' el) (x + 15) cn (some n)).2.2 (x + 9 + 6) k = _
          rw [gr_, if_neg (by omega), (kc9_lo (by omega)).2])
        (by
          show (x_r (kc9 cf x n i' el) (x + 15) cn (some n)).2.2 (x + 9 + 6) cn = _
          rw [gr_, if_pos ⟨by omega, rfl⟩])
        (fun a q => kl_lo q) (kl_in (j := 0) rfl) (kl_in (j := 1) rfl) (kl_in (j := 2) rfl) (kl_in (j := 3) rfl) (kl_in (j := 4) rfl)
      refine ⟨_, h', rt9_v cC ?_ a2 a3, a4⟩
      show Option.bind (f_X12_keeps x _ (bb9 true) (jI ((3 : Nat) : Int)) (jI 3) 3) _ = _
      rw [a1]
      rfl
