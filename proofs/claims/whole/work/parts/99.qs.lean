/-! ===== a text is kept ===== -/
theorem rp_ie {gh x : Nat} {K : XK} {h : XH} (I : Inv gh x K h) (ru : Bool) {cf : XH} (hP : f_X8_readP x h (bb9 (!ru)) = some (0, cf)) : ∃ i' el : Nat, i' ≤ 10 ∧ el ≤ 400 ∧ cf.1 (x + 1) 10 = jI (i' : Int) ∧ cf.1 (x + 1) 11 = jI (el : Int) := by
  obtain ⟨L, V, tc, t5, t67⟩ := I.tape
  obtain ⟨c0, r0', c', r', -, D⟩ := read9 (ru := ru) (r0 := rb9_ x L ru h) tc (rb9_T tc.L4 t67 tc.b) rb9_m.2.2.1 rb9_m.2.2.2.1
  rcases D with ⟨jf, Ef, pf, Ef', df, e1, -⟩ | ⟨i', jf, Ef, pf, gf, df, e1, e2, hi, C, R, lE, ll⟩
  · rw [hP] at e1
    have e := (Prod.mk.inj (Option.some.inj e1)).1
    exact absurd e (by decide)
  · rw [hP] at e1
    have e := (Prod.mk.inj (Option.some.inj e1)).2
    exact ⟨i', Ef.length, hi, lE, by rw [e, gi_k (by omega), C.fm 10 (by omega) (by omega)]; exact ll.1, by rw [e, gi_k (by omega)]; exact C.st⟩
theorem rp_tot {gh x : Nat} {K : XK} {h : XH} (I : Inv gh x K h) (ru : Bool) : (∃ cf, f_X8_readP x h (bb9 (!ru)) = some (1, cf)) ∨ ∃ cf, f_X8_readP x h (bb9 (!ru)) = some (0, cf) := by
  obtain ⟨L, V, tc, t5, t67⟩ := I.tape
  obtain ⟨c0, r0', c', r', -, D⟩ := read9 (ru := ru) (r0 := rb9_ x L ru h) tc (rb9_T tc.L4 t67 tc.b) rb9_m.2.2.1 rb9_m.2.2.2.1
  rcases D with ⟨jf, Ef, pf, Ef', df, e1, -⟩ | ⟨i', jf, Ef, pf, gf, df, e1, -⟩
  · exact .inl ⟨_, e1⟩
  · exact .inr ⟨_, e1⟩
theorem rd_CL {gh x n i' el cn : Nat} {K K' : XK} {h H cf : XH} (T : x_T x K h) (I : Inv gh x K h) (hz : ∀ q, n ≤ q → (K q).1 = 0) (hn : x + 77 ≤ n) (hP : f_X8_readP x h (bb9 (!false)) = some (0, cf)) (q10 : cf.1 (x + 1) 10 = jI (i' : Int)) (q11 : cf.1 (x + 1) 11 = jI (el : Int)) (hi : i' ≤ 10) (he : el ≤ 400) (hc : wd x h 2 = cn) (c3 : cn < 3)
    (hH : ∀ a, a < n → a ≠ x + 9 → H.1 a = cf.1 a) (hH9 : ∀ k, k ≠ 8 → H.1 (x + 9) k = cf.1 (x + 9) k) (hH8 : H.1 (x + 9) 8 = jI ((cn : Int) + 1)) (n1 : ∀ k, k < i' → H.1 (n + 1) k = cf.1 (x + 5) k) (n2 : ∀ k, k < i' → H.1 (n + 2) k = cf.1 (x + 6) k) (n3 : ∀ k, k < i' → H.1 (n + 3) k = cf.1 (x + 7) k) (n4 : ∀ k, k < el → H.1 (n + 4) k = cf.1 (x + 8) k)
    (hR : ∀ a, a < n → a ≠ x + 9 + 5 → H.2.2 a = cf.2.2 a) (hRk : ∀ k, k ≠ cn → H.2.2 (x + 9 + 5) k = cf.2.2 (x + 9 + 5) k) (hRn : H.2.2 (x + 9 + 5) cn = some n) (hK : ∀ a, a < n → K' a = K a) (k0 : K' n = (11, 0)) (k1 : K' (n + 1) = (14, i')) (k2 : K' (n + 2) = (14, i')) (k3 : K' (n + 3) = (14, i')) (k4 : K' (n + 4) = (14, el)) :
    ∃ h', f_X12_keeps x H (bb9 false) (jI ((2 : Nat) : Int)) (jI 0) 3 = some (jI (cn : Int), h') ∧ h'.1 (x + 64) 0 = jI 0 ∧ h'.2.1 = H.2.1 ∧ Inv gh x K' h' := by
  obtain ⟨L, V, tc, t5, t67⟩ := I.tape
  obtain ⟨g1, g2, g3⟩ := rp_fr I false hP
  have lo : ∀ a, a < n → x + 10 ≤ a → H.1 a = h.1 a := fun a q0 q => by rw [hH a q0 (by omega)]; exact g1 a (by omega) (by omega) (by omega) (by omega) (by omega) (by omega) (by omega)
  have h5 : H.1 (x + 64) 5 = jI L := by rw [lo _ (by omega) (by omega)]; exact t5
  have TR : TpR x V L false (rb9_ x L false H) := rb9_T tc.L4 (fun k hk => by rw [lo _ (by omega) (by omega)]; exact t67 k hk) tc.b
  obtain ⟨c0, r0', c', r', ⟨-, -, -, f4, f5, f6⟩, D⟩ := read9 (ru := false) (r0 := rb9_ x L false H) tc TR rb9_m.2.2.1 rb9_m.2.2.2.1
  rcases D with ⟨jf, Ef, pf, Ef', df, e1, -⟩ | ⟨i2, jf, Ef, pf, gf, df, e1, e2, hi2, C, R, lE, ll⟩
  · rw [hP] at e1
    have e := (Prod.mk.inj (Option.some.inj e1)).1
    exact absurd e (by decide)
  · rw [hP] at e1
    have e := (Prod.mk.inj (Option.some.inj e1)).2
    have ei : i2 = i' := by
      have q : jI (i2 : Int) = jI (i' : Int) := by rw [← q10, e, gi_k (by omega), C.fm 10 (by omega) (by omega)]; exact ll.1.symm
      have := (jI_eq (by omega) (by omega) (by omega) (by omega)).mp q
      omega
    have ee : Ef.length = el := by
      have q : jI (Ef.length : Int) = jI (el : Int) := by rw [← q11, e, gi_k (by omega)]; exact C.st.symm
      have := (jI_eq (by omega) (by omega) (by omega) (by omega)).mp q
      omega
    subst ei
    subst ee
    have m : ∀ k, k ≠ 6 → k ≠ 8 → k ≠ 9 → k ≠ 12 → r'.1 (x + 64) k = (rb9_ x L false H).1 (x + 64) k := fun k k1 k2 k3 k4 => by rw [R.fm k k1 k2 k3 k4, f4 _ (by omega)]
    have row : ∀ a, a ≠ x + 64 → a ≠ x + 65 → r'.1 a = H.1 a := fun a q1 q2 => by rw [R.fr a q1 q2, f4 a q2, rb9_n q1]
    have w65 : ∀ k, k < 6077 → r'.1 (x + 65) k = h.1 (x + 65) k := fun k hk => by rw [R.fw k (by omega), f6 k hk, rb9_n (by omega), lo _ (by omega) (by omega)]
    obtain ⟨h1, p1, pc, po, pr, ph⟩ := r_kpC (t := cn) (cn := (cn : Int)) (v3 := 0) h5 hi2 (show 2 < 8 by omega) e2 (by rw [w65 _ (by omega), wd_j, hc]) (by omega) (by omega) (by omega) (by omega)
    have fr : ∀ a, a ≠ x + 64 → a ≠ x + 65 → h1.1 a = H.1 a := fun a q1 q2 => by rw [pr a q2, gi_n q1, row a q1 q2]
    refine ⟨_, p1, ?_, ?_, ?_⟩
    · rw [gi_a (by omega), gi_a (by omega), pr _ (by omega), gi_k (by omega), m 0 (by omega) (by omega) (by omega) (by omega), rb9_m.2.2.2.2.2.1]
    · show h1.2.1 = _
      rw [ph, R.f2, f5, rb9_m.2.2.2.2.2.2.2]
    · have z0 : wd x (x_i (x_i h1 (x + 65) (970 + 851 * cn) (jI (i2 : Int))) (x + 65) 2 (jI ((cn : Int) + 1))) (970 + 851 * cn) = i2 := by
        unfold wd
        rw [gi_k (by omega), gi_s, jI_toInt (by omega) (by omega)]
      have zB : ∀ q, 1 ≤ q → q < 851 → wd x (x_i (x_i h1 (x + 65) (970 + 851 * cn) (jI (i2 : Int))) (x + 65) 2 (jI ((cn : Int) + 1))) (970 + 851 * cn + q) = wd x r' (6076 + q) := fun q q1 q2 => by
        unfold wd
        rw [gi_k (by omega), gi_k (by omega), pc q q2]
      have r2' : (x_i (x_i h1 (x + 65) (970 + 851 * cn) (jI (i2 : Int))) (x + 65) 2 (jI ((cn : Int) + 1))).2.2 = H.2.2 := by
        show h1.2.2 = _
        rw [ph, R.f2, f5, rb9_m.2.2.2.2.2.2.2]
      refine Inv.kL T I hz hn hK (fun a q0 q1 q2 q3 q4 q5 q6 q7 q8 q9 q10 => ?_) (fun k hk => ?_) ?_ hc c3 (fun k hk k2 kb => ?_) ?_ ?_ (fun a q0 q1 => ?_) (fun k hk => ?_) ?_ (text9 ll R hi2 lE z0 zB) (ctx9 ll R C hi2 lE z0 zB hn k0 k1 k2 k3 k4 (fun k hk => ?_) (fun k hk => ?_) (fun k hk => ?_) (fun k hk => ?_)) (Tp_0 ?_ ?_ ?_)
      · rw [gi_n q10, gi_n q10, fr a q9 q10, hH a q0 q8, g1 a q1 q2 q3 q4 q5 q6 q7]
      · rw [gi_a (by omega), gi_a (by omega), fr _ (by omega) (by omega), hH9 k hk, g1 _ (by omega) (by omega) (by omega) (by omega) (by omega) (by omega) (by omega)]
      · rw [gi_a (by omega), gi_a (by omega), fr _ (by omega) (by omega), hH8]
      · rw [gi_k k2, gi_k (by omega), po k kb, w65 k (by omega)]
      · unfold wd
        rw [gi_s, jI_toInt (by omega) (by omega)]
      · rw [gi_a (by omega), gi_a (by omega), pr _ (by omega), gi_k (by omega), m 3 (by omega) (by omega) (by omega) (by omega), rb9_m.2.2.2.2.2.2.1, lo _ (by omega) (by omega)]
      · rw [r2', hR a q0 q1, g2]
      · rw [r2', hRk k hk, g2]
      · rw [r2', hRn]
      · rw [gi_a (by omega), gi_a (by omega), fr _ (by omega) (by omega), n1 k hk, e, gi_a (by omega)]
      · rw [gi_a (by omega), gi_a (by omega), fr _ (by omega) (by omega), n2 k hk, e, gi_a (by omega)]
      · rw [gi_a (by omega), gi_a (by omega), fr _ (by omega) (by omega), n3 k hk, e, gi_a (by omega)]
      · rw [gi_a (by omega), gi_a (by omega), fr _ (by omega) (by omega), n4 k hk, e, gi_a (by omega)]
      · rw [gi_a (by omega), gi_a (by omega), fr _ (by omega) (by omega), hH _ (by omega) (by omega), g3]
      · rw [gi_a (by omega), gi_a (by omega), pr _ (by omega), gi_k (by omega), m 5 (by omega) (by omega) (by omega) (by omega), rb9_m.2.2.2.2.1]
      · rw [gi_a (by omega), gi_a (by omega), pr _ (by omega), gi_s, gi_a (by omega), gi_a (by omega), fr _ (by omega) (by omega), hH _ (by omega) (by omega), e, gi_s]
theorem rd_CR {gh x n i' el cn : Nat} {K K' : XK} {h H cf : XH} (T : x_T x K h) (I : Inv gh x K h) (hz : ∀ q, n ≤ q → (K q).1 = 0) (hn : x + 77 ≤ n) (hP : f_X8_readP x h (bb9 (!true)) = some (0, cf)) (q10 : cf.1 (x + 1) 10 = jI (i' : Int)) (q11 : cf.1 (x + 1) 11 = jI (el : Int)) (hi : i' ≤ 10) (he : el ≤ 400) (hc : wd x h 3 = cn) (c3 : cn < 3)
    (hH : ∀ a, a < n → a ≠ x + 9 → H.1 a = cf.1 a) (hH9 : ∀ k, k ≠ 10 → H.1 (x + 9) k = cf.1 (x + 9) k) (hH8 : H.1 (x + 9) 10 = jI ((cn : Int) + 1)) (n1 : ∀ k, k < i' → H.1 (n + 1) k = cf.1 (x + 5) k) (n2 : ∀ k, k < i' → H.1 (n + 2) k = cf.1 (x + 6) k) (n3 : ∀ k, k < i' → H.1 (n + 3) k = cf.1 (x + 7) k) (n4 : ∀ k, k < el → H.1 (n + 4) k = cf.1 (x + 8) k)
    (hR : ∀ a, a < n → a ≠ x + 9 + 6 → H.2.2 a = cf.2.2 a) (hRk : ∀ k, k ≠ cn → H.2.2 (x + 9 + 6) k = cf.2.2 (x + 9 + 6) k) (hRn : H.2.2 (x + 9 + 6) cn = some n) (hK : ∀ a, a < n → K' a = K a) (k0 : K' n = (11, 0)) (k1 : K' (n + 1) = (14, i')) (k2 : K' (n + 2) = (14, i')) (k3 : K' (n + 3) = (14, i')) (k4 : K' (n + 4) = (14, el)) :
    ∃ h', f_X12_keeps x H (bb9 true) (jI ((3 : Nat) : Int)) (jI 3) 3 = some (jI (cn : Int), h') ∧ h'.1 (x + 64) 0 = jI 0 ∧ h'.2.1 = H.2.1 ∧ Inv gh x K' h' := by
  obtain ⟨L, V, tc, t5, t67⟩ := I.tape
  obtain ⟨g1, g2, g3⟩ := rp_fr I true hP
  have lo : ∀ a, a < n → x + 10 ≤ a → H.1 a = h.1 a := fun a q0 q => by rw [hH a q0 (by omega)]; exact g1 a (by omega) (by omega) (by omega) (by omega) (by omega) (by omega) (by omega)
  have h5 : H.1 (x + 64) 5 = jI L := by rw [lo _ (by omega) (by omega)]; exact t5
  have TR : TpR x V L true (rb9_ x L true H) := rb9_T tc.L4 (fun k hk => by rw [lo _ (by omega) (by omega)]; exact t67 k hk) tc.b
  obtain ⟨c0, r0', c', r', ⟨-, -, -, f4, f5, f6⟩, D⟩ := read9 (ru := true) (r0 := rb9_ x L true H) tc TR rb9_m.2.2.1 rb9_m.2.2.2.1
  rcases D with ⟨jf, Ef, pf, Ef', df, e1, -⟩ | ⟨i2, jf, Ef, pf, gf, df, e1, e2, hi2, C, R, lE, ll⟩
  · rw [hP] at e1
    have e := (Prod.mk.inj (Option.some.inj e1)).1
    exact absurd e (by decide)
  · rw [hP] at e1
    have e := (Prod.mk.inj (Option.some.inj e1)).2
    have ei : i2 = i' := by
      have q : jI (i2 : Int) = jI (i' : Int) := by rw [← q10, e, gi_k (by omega), C.fm 10 (by omega) (by omega)]; exact ll.1.symm
      have := (jI_eq (by omega) (by omega) (by omega) (by omega)).mp q
      omega
    have ee : Ef.length = el := by
      have q : jI (Ef.length : Int) = jI (el : Int) := by rw [← q11, e, gi_k (by omega)]; exact C.st.symm
      have := (jI_eq (by omega) (by omega) (by omega) (by omega)).mp q
      omega
    subst ei
    subst ee
    have m : ∀ k, k ≠ 6 → k ≠ 8 → k ≠ 9 → k ≠ 12 → r'.1 (x + 64) k = (rb9_ x L true H).1 (x + 64) k := fun k k1 k2 k3 k4 => by rw [R.fm k k1 k2 k3 k4, f4 _ (by omega)]
    have row : ∀ a, a ≠ x + 64 → a ≠ x + 65 → r'.1 a = H.1 a := fun a q1 q2 => by rw [R.fr a q1 q2, f4 a q2, rb9_n q1]
    have w65 : ∀ k, k < 6077 → r'.1 (x + 65) k = h.1 (x + 65) k := fun k hk => by rw [R.fw k (by omega), f6 k hk, rb9_n (by omega), lo _ (by omega) (by omega)]
    obtain ⟨h1, p1, pc, po, pr, ph⟩ := r_kpC (t := (3 + cn)) (cn := (cn : Int)) (v3 := 3) h5 hi2 (show 3 < 8 by omega) e2 (by rw [w65 _ (by omega), wd_j, hc]) (by omega) (by omega) (by omega) (by omega)
    rw [show 970 + 851 * (3 + cn) = 3523 + 851 * cn by omega] at p1 pc po
    have fr : ∀ a, a ≠ x + 64 → a ≠ x + 65 → h1.1 a = H.1 a := fun a q1 q2 => by rw [pr a q2, gi_n q1, row a q1 q2]
    refine ⟨_, p1, ?_, ?_, ?_⟩
    · rw [gi_a (by omega), gi_a (by omega), pr _ (by omega), gi_k (by omega), m 0 (by omega) (by omega) (by omega) (by omega), rb9_m.2.2.2.2.2.1]
    · show h1.2.1 = _
      rw [ph, R.f2, f5, rb9_m.2.2.2.2.2.2.2]
    · have z0 : wd x (x_i (x_i h1 (x + 65) (3523 + 851 * cn) (jI (i2 : Int))) (x + 65) 3 (jI ((cn : Int) + 1))) (3523 + 851 * cn) = i2 := by
        unfold wd
        rw [gi_k (by omega), gi_s, jI_toInt (by omega) (by omega)]
      have zB : ∀ q, 1 ≤ q → q < 851 → wd x (x_i (x_i h1 (x + 65) (3523 + 851 * cn) (jI (i2 : Int))) (x + 65) 3 (jI ((cn : Int) + 1))) (3523 + 851 * cn + q) = wd x r' (6076 + q) := fun q q1 q2 => by
        unfold wd
        rw [gi_k (by omega), gi_k (by omega), pc q q2]
      have r2' : (x_i (x_i h1 (x + 65) (3523 + 851 * cn) (jI (i2 : Int))) (x + 65) 3 (jI ((cn : Int) + 1))).2.2 = H.2.2 := by
        show h1.2.2 = _
        rw [ph, R.f2, f5, rb9_m.2.2.2.2.2.2.2]
      refine Inv.kR T I hz hn hK (fun a q0 q1 q2 q3 q4 q5 q6 q7 q8 q9 q10 => ?_) (fun k hk => ?_) ?_ hc c3 (fun k hk k2 kb => ?_) ?_ ?_ (fun a q0 q1 => ?_) (fun k hk => ?_) ?_ (text9 ll R hi2 lE z0 zB) (ctx9 ll R C hi2 lE z0 zB hn k0 k1 k2 k3 k4 (fun k hk => ?_) (fun k hk => ?_) (fun k hk => ?_) (fun k hk => ?_)) (Tp_0 ?_ ?_ ?_)
      · rw [gi_n q10, gi_n q10, fr a q9 q10, hH a q0 q8, g1 a q1 q2 q3 q4 q5 q6 q7]
      · rw [gi_a (by omega), gi_a (by omega), fr _ (by omega) (by omega), hH9 k hk, g1 _ (by omega) (by omega) (by omega) (by omega) (by omega) (by omega) (by omega)]
      · rw [gi_a (by omega), gi_a (by omega), fr _ (by omega) (by omega), hH8]
      · rw [gi_k k2, gi_k (by omega), po k kb, w65 k (by omega)]
      · unfold wd
        rw [gi_s, jI_toInt (by omega) (by omega)]
      · rw [gi_a (by omega), gi_a (by omega), pr _ (by omega), gi_k (by omega), m 3 (by omega) (by omega) (by omega) (by omega), rb9_m.2.2.2.2.2.2.1, lo _ (by omega) (by omega)]
      · rw [r2', hR a q0 q1, g2]
      · rw [r2', hRk k hk, g2]
      · rw [r2', hRn]
      · rw [gi_a (by omega), gi_a (by omega), fr _ (by omega) (by omega), n1 k hk, e, gi_a (by omega)]
      · rw [gi_a (by omega), gi_a (by omega), fr _ (by omega) (by omega), n2 k hk, e, gi_a (by omega)]
      · rw [gi_a (by omega), gi_a (by omega), fr _ (by omega) (by omega), n3 k hk, e, gi_a (by omega)]
      · rw [gi_a (by omega), gi_a (by omega), fr _ (by omega) (by omega), n4 k hk, e, gi_a (by omega)]
      · rw [gi_a (by omega), gi_a (by omega), fr _ (by omega) (by omega), hH _ (by omega) (by omega), g3]
      · rw [gi_a (by omega), gi_a (by omega), pr _ (by omega), gi_k (by omega), m 5 (by omega) (by omega) (by omega) (by omega), rb9_m.2.2.2.2.1]
      · rw [gi_a (by omega), gi_a (by omega), pr _ (by omega), gi_s, gi_a (by omega), gi_a (by omega), fr _ (by omega) (by omega), hH _ (by omega) (by omega), e, gi_s]
