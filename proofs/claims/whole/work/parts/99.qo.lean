/-! ===== a wrong text: nothing is kept ===== -/
/-- what the component's reading leaves as it was (whatever the reference's base) -/
theorem rp_fr {gh x : Nat} {K : XK} {h : XH} (I : Inv gh x K h) (ru : Bool) {fl : Int32} {cf : XH} (hP : f_X8_readP x h (bb9 (!ru)) = some (fl, cf)) : (∀ a, a ≠ x + 1 → a ≠ x + 3 → a ≠ x + 4 → a ≠ x + 5 → a ≠ x + 6 → a ≠ x + 7 → a ≠ x + 8 → cf.1 a = h.1 a) ∧ cf.2 = h.2 ∧ cf.1 (x + 1) 1 = jI 0 := by
  obtain ⟨L, V, tc, t5, t67⟩ := I.tape
  obtain ⟨c0, r0', c', r', ⟨f1, f2, f3, -⟩, D⟩ := read9 (ru := ru) (r0 := rb9_ x L ru h) tc (rb9_T tc.L4 t67 tc.b) rb9_m.2.2.1 rb9_m.2.2.2.1
  rcases D with ⟨jf, Ef, pf, Ef', df, e1, -, C, -⟩ | ⟨i', jf, Ef, pf, gf, df, e1, -, -, C, -⟩
  · rw [hP] at e1
    have e := (Prod.mk.inj (Option.some.inj e1)).2
    rw [e]
    exact ⟨fun a q1 q2 q3 q4 q5 q6 q7 => by rw [gi_n q1, C.fr a q1 q7, f1 a q1 q2 q3 q4 q5 q6], C.f2.trans f2, by rw [gi_k (by omega), C.fm 1 (by omega) (by omega)]; exact f3⟩
  · rw [hP] at e1
    have e := (Prod.mk.inj (Option.some.inj e1)).2
    rw [e]
    exact ⟨fun a q1 q2 q3 q4 q5 q6 q7 => by rw [gi_n q1, C.fr a q1 q7, f1 a q1 q2 q3 q4 q5 q6], C.f2.trans f2, by rw [gi_k (by omega), C.fm 1 (by omega) (by omega)]; exact f3⟩
theorem rd_A {gh x n : Nat} {K : XK} {h : XH} (T : x_T x K h) (I : Inv gh x K h) (hz : ∀ q, n ≤ q → (K q).1 = 0) (hn : x + 77 ≤ n) (ru : Bool) {cf : XH} (hP : f_X8_readP x h (bb9 (!ru)) = some (1, cf)) {v2 v3 v4 : Int32} : ∃ h', f_X12_keeps x cf (bb9 ru) v2 v3 v4 = some (0, h') ∧ h'.1 (x + 64) 0 = jI 1 ∧ Inv gh x K h' := by
  obtain ⟨L, V, tc, t5, t67⟩ := I.tape
  obtain ⟨g1, g2, g3⟩ := rp_fr I ru hP
  have lo : ∀ a, x + 9 ≤ a → cf.1 a = h.1 a := fun a q => g1 a (by omega) (by omega) (by omega) (by omega) (by omega) (by omega) (by omega)
  have h5 : cf.1 (x + 64) 5 = jI L := by rw [lo _ (by omega)]; exact t5
  have TR : TpR x V L ru (rb9_ x L ru cf) := rb9_T tc.L4 (fun k hk => by rw [lo _ (by omega)]; exact t67 k hk) tc.b
  obtain ⟨c0, r0', c', r', ⟨-, -, -, f4, f5, f6⟩, D⟩ := read9 (ru := ru) (r0 := rb9_ x L ru cf) tc TR rb9_m.2.2.1 rb9_m.2.2.2.1
  rcases D with ⟨jf, Ef, pf, Ef', df, e1, e2, C, R⟩ | ⟨i', jf, Ef, pf, gf, df, e1, -⟩
  · rw [hP] at e1
    have e := (Prod.mk.inj (Option.some.inj e1)).2
    refine ⟨_, r_kpA h5 e2, gi_s, ?_⟩
    have m : ∀ k, k ≠ 6 → k ≠ 8 → k ≠ 9 → k ≠ 12 → r'.1 (x + 64) k = (rb9_ x L ru cf).1 (x + 64) k := fun k k1 k2 k3 k4 => by rw [R.fm k k1 k2 k3 k4, f4 _ (by omega)]
    have row : ∀ a, a ≠ x + 64 → a ≠ x + 65 → r'.1 a = cf.1 a := fun a q1 q2 => by rw [R.fr a q1 q2, f4 a q2, rb9_n q1]
    refine Inv.rd T I hz hn (fun _ _ => rfl) (fun a q0 q1 q2 q3 q4 q5 q6 q7 q8 q9 => ?_) (fun k hk => ?_) ?_ (fun a _ => ?_) (Tp_0 ?_ ?_ ?_)
    · rw [gi_n q8, gi_n q8, row a q8 q9, g1 a q1 q2 q3 q4 q5 q6 q7]
    · rw [gi_a (by omega), gi_a (by omega), R.fw k (by omega), f6 k (by omega), rb9_n (by omega), lo _ (by omega)]
    · rw [gi_k (by omega), gi_k (by omega), m 3 (by omega) (by omega) (by omega) (by omega), rb9_m.2.2.2.2.2.2.1, lo _ (by omega)]
    · show r'.2.2 a = _
      rw [R.f2, f5, rb9_m.2.2.2.2.2.2.2, g2]
    · rw [gi_a (by omega), gi_a (by omega), row _ (by omega) (by omega), g3]
    · rw [gi_k (by omega), gi_k (by omega), m 5 (by omega) (by omega) (by omega) (by omega), rb9_m.2.2.2.2.1]
    · rw [gi_k (by omega), gi_s, gi_a (by omega), gi_a (by omega), row (x + 1) (by omega) (by omega), R.bg, e, gi_s]
  · rw [hP] at e1
    have e := (Prod.mk.inj (Option.some.inj e1)).1
    exact absurd e (by decide)
