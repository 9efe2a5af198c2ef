/-! ===== a right text for which there is no room ===== -/
theorem rd_B {gh x n v2 : Nat} {K K' : XK} {h H : XH} (T : x_T x K h) (I : Inv gh x K h) (hz : ∀ q, n ≤ q → (K q).1 = 0) (hn : x + 77 ≤ n) (ru : Bool) {cf : XH} (hP : f_X8_readP x h (bb9 (!ru)) = some (0, cf)) (hH : ∀ a, a < n → H.1 a = cf.1 a) (hR : ∀ a, a < n → H.2.2 a = cf.2.2 a) (hK : ∀ a, a < n → K' a = K a) (hv : v2 < 8) (hw : wd x h v2 = 3) {v3 : Int32} : ∃ h', f_X12_keeps x H (bb9 ru) (jI (v2 : Int)) v3 3 = some (0, h') ∧ h'.1 (x + 64) 0 = jI 2 ∧ Inv gh x K' h' := by
  obtain ⟨L, V, tc, t5, t67⟩ := I.tape
  obtain ⟨g1, g2, g3⟩ := rp_fr I ru hP
  have lo : ∀ a, a < n → x + 9 ≤ a → H.1 a = h.1 a := fun a q0 q => by rw [hH a q0]; exact g1 a (by omega) (by omega) (by omega) (by omega) (by omega) (by omega) (by omega)
  have h5 : H.1 (x + 64) 5 = jI L := by rw [lo _ (by omega) (by omega)]; exact t5
  have TR : TpR x V L ru (rb9_ x L ru H) := rb9_T tc.L4 (fun k hk => by rw [lo _ (by omega) (by omega)]; exact t67 k hk) tc.b
  obtain ⟨c0, r0', c', r', ⟨-, -, -, f4, f5, f6⟩, D⟩ := read9 (ru := ru) (r0 := rb9_ x L ru H) tc TR rb9_m.2.2.1 rb9_m.2.2.2.1
  rcases D with ⟨jf, Ef, pf, Ef', df, e1, -⟩ | ⟨i', jf, Ef, pf, gf, df, e1, e2, hi, C, R, lE, ll⟩
  · rw [hP] at e1
    have e := (Prod.mk.inj (Option.some.inj e1)).1
    exact absurd e (by decide)
  · rw [hP] at e1
    have e := (Prod.mk.inj (Option.some.inj e1)).2
    have m : ∀ k, k ≠ 6 → k ≠ 8 → k ≠ 9 → k ≠ 12 → r'.1 (x + 64) k = (rb9_ x L ru H).1 (x + 64) k := fun k k1 k2 k3 k4 => by rw [R.fm k k1 k2 k3 k4, f4 _ (by omega)]
    have row : ∀ a, a ≠ x + 64 → a ≠ x + 65 → r'.1 a = H.1 a := fun a q1 q2 => by rw [R.fr a q1 q2, f4 a q2, rb9_n q1]
    have w65 : ∀ k, k < 6077 → r'.1 (x + 65) k = h.1 (x + 65) k := fun k hk => by rw [R.fw k (by omega), f6 k hk, rb9_n (by omega), lo _ (by omega) (by omega)]
    refine ⟨_, r_kpB h5 hi hv e2 (by rw [w65 _ (by omega), wd_j, hw]), gi_s, ?_⟩
    refine Inv.rd T I hz hn hK (fun a q0 q1 q2 q3 q4 q5 q6 q7 q8 q9 => ?_) (fun k hk => ?_) ?_ (fun a q0 => ?_) (Tp_0 ?_ ?_ ?_)
    · rw [gi_n q8, gi_n q8, row a q8 q9, hH a q0, g1 a q1 q2 q3 q4 q5 q6 q7]
    · rw [gi_a (by omega), gi_a (by omega), w65 k (by omega)]
    · rw [gi_k (by omega), gi_k (by omega), m 3 (by omega) (by omega) (by omega) (by omega), rb9_m.2.2.2.2.2.2.1, lo _ (by omega) (by omega)]
    · show r'.2.2 a = _
      rw [R.f2, f5, rb9_m.2.2.2.2.2.2.2, hR a q0, g2]
    · rw [gi_a (by omega), gi_a (by omega), row (x + 1) (by omega) (by omega), hH _ (by omega), g3]
    · rw [gi_k (by omega), gi_k (by omega), m 5 (by omega) (by omega) (by omega) (by omega), rb9_m.2.2.2.2.1]
    · rw [gi_k (by omega), gi_s, gi_a (by omega), gi_a (by omega), row (x + 1) (by omega) (by omega), hH _ (by omega), e, gi_s]
