/-! ===== plan ===== -/
theorem sr0_ {z : Int} {c : Nat} (h1 : -2147483648 ≤ z) (h2 : z < 2147483648) (hc : c < 32) : x_shr (jI z) (jI (c : Int)) = 0 ↔ 0 ≤ z ∧ z < ((2 ^ c : Nat) : Int) := by
  have e : (x_shr (jI z) (jI (c : Int))).toBitVec = (jI z).toBitVec.sshiftRight c := by
    show (jI z).toBitVec.sshiftRight ((jI (c : Int) &&& 31).toBitVec.smod 32).toNat = _
    rw [s32_ ⟨c, hc⟩]
  have ez : (jI z).toBitVec.toInt = z := jI_toInt h1 h2
  have p0 : (0 : Int) < ((2 ^ c : Nat) : Int) := by
    have : 0 < 2 ^ c := Nat.pow_pos (by omega)
    omega
  rw [← Int32.toBitVec_inj, e, ← BitVec.toInt_inj, BitVec.toInt_sshiftRight, ez, Int.shiftRight_eq_div_pow, show (0 : Int32).toBitVec.toInt = 0 from rfl]
  generalize ((2 ^ c : Nat) : Int) = p at p0
  constructor
  · intro q
    have a := Int.emod_nonneg z (show p ≠ 0 by omega)
    have b := Int.emod_lt_of_pos z p0
    have c := Int.emod_add_mul_ediv z p
    rw [q, Int.mul_zero] at c
    omega
  · intro q
    exact Int.ediv_eq_zero_of_lt q.1 q.2
theorem pw8_ : ∀ t : Fin 9, x_shl 1 (jI (t.val : Int)) - 1 = jI ((2 ^ t.val : Nat) - 1 : Int) := by decide
theorem in_9 {h : XH} {z a b : Int} (h1 : -2147483648 ≤ z) (h2 : z < 2147483648) (a1 : -2147483648 ≤ a) (a2 : a < 2147483648) (b1 : -2147483648 ≤ b) (b2 : b < 2147483648) : f_X12_in h (jI z) (jI a) (jI b) = if a ≤ z ∧ z ≤ b then 1 else 0 := by
  unfold f_X12_in
  have g1 : jI z < jI a ↔ z < a := jI_lt h1 h2 a1 a2
  have g2 : jI b < jI z ↔ b < z := jI_lt b1 b2 h1 h2
  simp only [g1, g2]
  by_cases c : z < a
  · rw [if_pos c, if_neg (by omega)]
  · by_cases d : b < z
    · rw [if_neg c, if_pos d, if_neg (by omega)]
    · rw [if_neg c, if_neg d, if_pos (by omega)]
def ptd_ (w : Nat → Int) (s : Nat) : Nat → Bool
  | 0 => false
  | i + 1 => ptd_ w s i || (s.testBit i && decide (0 < w (290 + 81 * i + 3)))
theorem ptd_m {w : Nat → Int} {s : Nat} : ∀ d i, ptd_ w s i = true → ptd_ w s (i + d) = true := by
  intro d
  induction d with
  | zero => intro i h; exact h
  | succ d ih =>
    intro i h
    show (ptd_ w s (i + d) || _) = true
    rw [ih i h, Bool.true_or]
theorem qs_t {s P : Nat} (h : s < 2 ^ P) : ∀ d, qs_ s (P + d) = qs_ s P := by
  intro d
  induction d with
  | zero => rfl
  | succ d ih =>
    show (if s.testBit (P + d) = true then qs_ s (P + d) ++ [P + d] else qs_ s (P + d)) = _
    rw [Nat.testBit_lt_two_pow (show s < 2 ^ (P + d) from Nat.lt_of_lt_of_le h (Nat.pow_le_pow_right (by omega) (by omega))), if_neg (by decide), ih]
theorem qs_in {s : Nat} : ∀ i k k', k < (qs_ s i).length → k' < (qs_ s i).length → (qs_ s i).getD k 0 = (qs_ s i).getD k' 0 → k = k' := by
  intro i
  induction i with
  | zero => intro k k' hk; exact absurd hk (by simp [qs_])
  | succ i ih =>
    intro k k' hk hk' e
    have eq : qs_ s (i + 1) = if s.testBit i = true then qs_ s i ++ [i] else qs_ s i := rfl
    rw [eq] at hk hk' e
    by_cases c : s.testBit i = true
    · rw [if_pos c] at hk hk' e
      have el : (qs_ s i ++ [i]).length = (qs_ s i).length + 1 := by rw [List.length_append]; rfl
      rw [el] at hk hk'
      by_cases a : k = (qs_ s i).length
      · by_cases b : k' = (qs_ s i).length
        · omega
        · have lt := qs_lt (s := s) i k' (by omega)
          rw [a, gD_r, gD_l (by omega)] at e
          omega
      · by_cases b : k' = (qs_ s i).length
        · have lt := qs_lt (s := s) i k (by omega)
          rw [b, gD_r, gD_l (by omega)] at e
          omega
        · rw [gD_l (by omega), gD_l (by omega)] at e
          exact ih k k' (by omega) (by omega) e
    · rw [if_neg c] at hk hk' e
      exact ih k k' hk hk' e
theorem qs_hi {s P : Nat} (hP : P ≤ 8) (k : Nat) : (qs_ s P).getD k 0 < 1000 := by
  by_cases c : k < (qs_ s P).length
  · have := qs_lt (s := s) P k c
    omega
  · rw [List.getD_eq_getElem?_getD, List.getElem?_eq_none (by omega)]
    decide
theorem c_ck33 {gh : Nat} {x : Nat} {K : XK} {h : XH} (I : Inv gh x K h) {s P : Nat} (hP : wd x h 1 = P) (hs : s < 256) : f_X11_checkPlanned_33 x x_FU h (jI s) (jI 0) = some (if ptd_ (wd x h) s P = true then .inl 1 else .inr (), h) := by
  have w1 := I.w1
  have e4 : h.1 (x + 9) 4 = jI (wd x h 1) := I.2.1.1.2.1
  have key := x_up0 (P := fun m i => ptd_ (wd x h) s i = false → f_X11_checkPlanned_33 x m h (jI s) (jI (i : Int)) = some (if ptd_ (wd x h) s P = true then .inl 1 else .inr (), h)) P (by omega) (fun m hf => by
    rw [f_X11_checkPlanned_33, e4, if_pos ((jI_le (by omega) (by omega) (by omega) (by omega)).mpr (by omega)), hf, if_neg (by decide)]) (fun m i hi ih hf => by
    have pk := (I.pk (q := i) (by omega)).2.2.2.1
    have ep : ptd_ (wd x h) s (i + 1) = (ptd_ (wd x h) s i || (s.testBit i && decide (0 < wd x h (290 + 81 * i + 3)))) := rfl
    have mo := ptd_m (w := wd x h) (s := s) (P - (i + 1)) (i + 1)
    rw [show i + 1 + (P - (i + 1)) = P by omega] at mo
    rw [hf, Bool.false_or] at ep
    rw [f_X11_checkPlanned_33, e4, if_neg (fun q => absurd ((jI_le (by omega) (by omega) (by omega) (by omega)).mp q) (by omega)), bi_at (by omega), bi_n (by omega) (by omega)]
    unfold f_X11_checkPlanned_79
    rw [jI_s i]
    by_cases c : s.testBit i = true
    · rw [c, Bool.true_and] at ep
      rw [if_pos c, if_pos rfl, if_pos (jI_b (by omega) (by omega) (by omega)), nat_ (by omega), pk]
      by_cases d : 0 < wd x h (290 + 81 * i + 3)
      · rw [decide_eq_true d] at ep
        rw [if_pos d, if_neg (show ¬ jI 1 = (0 : Int32) by decide), mo ep, if_pos rfl]
      · rw [decide_eq_false d] at ep
        rw [if_neg d, if_pos (show jI 0 = (0 : Int32) from rfl)]
        exact ih ep
    · rw [show s.testBit i = false by simpa using c, Bool.false_and] at ep
      rw [if_neg c, if_neg (by decide)]
      exact ih ep)
  exact key rfl
def PO (w : Nat → Int) (z2 z3 z4 : Int) (P : Nat) : Prop := (0 ≤ z2 ∧ z2 < ((2 ^ P : Nat) : Int)) ∧ pc8_ z2.toNat ≤ 5 ∧ (1 ≤ z3 ∧ z3 ≤ 3) ∧ (1 ≤ z4 ∧ z4 ≤ 60)
def vP_ (w : Nat → Int) (t s : Nat) (per sec what : Int) (H P : Nat) : Int :=
  if what = -1 then (fw_ (Wl w t per sec H (qs_ s P)) H (qs_ s P).length (H ^ (qs_ s P).length)).1
  else if (fw_ (Wl w t per sec H (qs_ s P)) H (qs_ s P).length (H ^ (qs_ s P).length)).1 = -1 then -1
  else ix_ (qs_ s P) what (dg_ H (qs_ s P).length (fw_ (Wl w t per sec H (qs_ s P)) H (qs_ s P).length (H ^ (qs_ s P).length)).2.toNat) (qs_ s P).length 0
theorem c_17 {gh : Nat} {x : Nat} {K : XK} {h : XH} (T : x_T x K h) (I : Inv gh x K h) {t H P : Nat} (hH : wd x h 0 = H) (hP : wd x h 1 = P) (ht : (t : Int) < wd x h 2) {z2 z3 z4 z5 : Int} (r2 : -2147483648 ≤ z2 ∧ z2 < 2147483648) (r3 : -2147483648 ≤ z3 ∧ z3 < 2147483648) (r4 : -2147483648 ≤ z4 ∧ z4 < 2147483648) (r5 : -2147483648 ≤ z5 ∧ z5 < 2147483648) :
    (PO (wd x h) z2 z3 z4 P ∧ ptd_ (wd x h) z2.toNat P = false → ∃ h2, f_X11_plan_17 K x h (jI t) (jI z2) (jI z3) (jI z4) (jI z5) = some (.inr (jI (vP_ (wd x h) t z2.toNat z3 z4 z5 H P)), h2) ∧ SF x h h2) ∧ (¬ (PO (wd x h) z2 z3 z4 P ∧ ptd_ (wd x h) z2.toNat P = false) → f_X11_plan_17 K x h (jI t) (jI z2) (jI z3) (jI z4) (jI z5) = some (.inl 1, h)) := by
  have w0 := I.w0
  have w1 := I.w1
  have w2 := I.w2
  have e4 : h.1 (x + 9) 4 = jI (wd x h 1) := I.2.1.1.2.1
  have p8 : 2 ^ P ≤ 256 := Nat.pow_le_pow_right (n := 2) (by omega) (show P ≤ 8 by omega)
  have a1 : jI z3 < (1 : Int32) ↔ z3 < 1 := jI_lt (b := 1) r3.1 r3.2 (by omega) (by omega)
  have a2 : jI z3 ≤ (3 : Int32) ↔ z3 ≤ 3 := jI_le (b := 3) r3.1 r3.2 (by omega) (by omega)
  have a3 : jI z4 < (1 : Int32) ↔ z4 < 1 := jI_lt (b := 1) r4.1 r4.2 (by omega) (by omega)
  have a4 : jI z4 ≤ (60 : Int32) ↔ z4 ≤ 60 := jI_le (b := 60) r4.1 r4.2 (by omega) (by omega)
  have sh : x_shr (jI z2) (jI (P : Int)) = 0 ↔ 0 ≤ z2 ∧ z2 < ((2 ^ P : Nat) : Int) := sr0_ r2.1 r2.2 (by omega)
  have pc : ∀ s : Nat, s < 256 → pc8_ s ≤ 8 := fun s hs => by
    rw [← qs_8 ⟨s, hs⟩]
    exact qs_le 8
  refine ⟨fun ok => ?_, fun no => ?_⟩
  · obtain ⟨⟨b1, b2, b3, b4⟩, b5⟩ := ok
    obtain ⟨s, rfl⟩ : ∃ s : Nat, z2 = s := ⟨z2.toNat, by omega⟩
    rw [Int.toNat_natCast] at b2 b5 ⊢
    have k56 : (K (x + 56)).2 = 30 := by rw [tk_ T (j := 56) (by omega) rfl]
    have lq : (qs_ s P).length = pc8_ s := by
      have a := qs_8 ⟨s, by omega⟩
      have b := qs_t (s := s) (P := P) (by omega) (8 - P)
      rw [show P + (8 - P) = 8 by omega] at b
      rw [← a, b]
    unfold f_X11_plan_17
    have ck : f_X11_checkPlanned x h (jI (s : Int)) = some (.inr (), h) := by
      unfold f_X11_checkPlanned
      rw [e4, hP, if_pos (sh.mpr b1), bc_e h (by omega), if_pos (show jI (pc8_ s : Int) ≤ (5 : Int32) from (jI_le (b := 5) (by omega) (by omega) (by omega) (by omega)).mpr (by omega)), show f_X11_checkPlanned_33 x x_FU h (jI (s : Int)) 0 = _ from c_ck33 I hP (by omega), b5, if_neg (by decide)]
    rw [ck, xb_v]
    unfold f_X11_checkPer
    rw [if_neg (fun q => absurd (a1.mp q) (by omega)), if_pos (a2.mpr b3.2), xb_v]
    unfold f_X11_checkSeconds
    rw [if_neg (fun q => absurd (a3.mp q) (by omega)), if_pos (a4.mpr b4.2), xb_v]
    unfold f_X3_begin
    have fl := fill_ (h := x_i (x_i h (x + 54) 4 (jI 0)) (x + 54) 5 (jI (-1))) (v0 := x + 56) (v := -1) k56 (by omega)
    rw [xl_, xl_, m1_, show (0 : Int32) = jI 0 from rfl, fl, Option.bind_some, Option.bind_some]
    generalize hH5 : wr_ (x + 56) 0 (fun _ => (-1 : Int)) 30 (x_i (x_i h (x + 54) 4 (jI 0)) (x + 54) 5 (jI (-1))) = h5
    have f5 : SF x h h5 := by
      rw [← hH5]
      exact ⟨fun a ha => by rw [wr_n (ha 56 (by decide)), gi_n (ha 54 (by decide)), gi_n (ha 54 (by decide))], by rw [wr_2]; rfl⟩
    have ew := f5.fr.ew
    have wf : WF x h5 [] (fun _ _ => -1) := by
      rw [← hH5]
      refine ⟨?_, ?_, fun k hk => absurd hk (by simp), fun k d hk hd => ?_⟩
      · rw [wr_n (by omega), gi_k (by omega), gi_s]
        rfl
      · rw [wr_n (by omega), gi_s]
      · have := wr_i (a := x + 56) (b := 0) (n := 30) (f := fun _ => (-1 : Int)) (h := x_i (x_i h (x + 54) 4 (jI 0)) (x + 54) 5 (jI (-1))) (k := 6 * k + d) (by omega)
        rw [Nat.zero_add] at this
        exact this
    have k43 := c_p43 (I.fr f5.fr) (t := t) (H := H) (P := P) (s := s) (per := z3) (sec := z4) (v5 := jI z5) (by rw [ew]; exact hH) (by rw [ew]; exact hP) (by rw [ew]; exact ht) (by omega) (by omega) b3 b4 wf
    rw [ew] at k43
    obtain ⟨h6, k1, k2, k3⟩ := k43
    have Wb := Wl_b I (t := t) (H := H) (P := P) (s := s) (per := z3) (sec := z4) hP
    obtain ⟨h7, m1, m2, m3, m4⟩ := c_srch (x := x) (n := (qs_ s P).length) rfl (by omega) Wb k2
    rw [k1, m1, Option.bind_some]
    have d6 := dS_6 (W := Wl (wd x h) t z3 z4 H (qs_ s P)) (H := H) (n := (qs_ s P).length) (by omega) (fun k d hd => by rw [Wl_n (.inr hd)]; omega) (qs_ s P).length 0 0 [] (-1, [])
    rw [d6] at m2
    have pl := pl_e (W := Wl (wd x h) t z3 z4 H (qs_ s P)) (H := H) (n := (qs_ s P).length)
    have fr := fw_r (W := Wl (wd x h) t z3 z4 H (qs_ s P)) (H := H) (n := (qs_ s P).length) (H ^ (qs_ s P).length)
    refine ⟨h7, ?_, f5.tr (k3.tr m4)⟩
    unfold vP_
    by_cases c : z5 = -1
    · rw [if_pos ((jm1 r5.1 r5.2).mpr c), if_pos c, m2.2.1, pl.1]
    · rw [if_neg (fun q => c ((jm1 r5.1 r5.2).mp q)), if_neg c, c_hf r5 (by omega) (qs_hi (by omega)) m2 m3, Option.bind_some, pl.1]
      by_cases d : (fw_ (Wl (wd x h) t z3 z4 H (qs_ s P)) H (qs_ s P).length (H ^ (qs_ s P).length)).1 = -1
      · rw [if_pos d, if_pos d]
      · have b := fr.2.2.1
        have dd : ¬ (fw_ (Wl (wd x h) t z3 z4 H (qs_ s P)) H (qs_ s P).length (H ^ (qs_ s P).length)).2 = -1 := fun q => d (fr.2.2.2.2.1.mp q)
        rw [if_neg d, if_neg d, pl.2 (by omega)]
  · unfold f_X11_plan_17 f_X11_checkPlanned
    rw [e4, hP]
    by_cases b1 : 0 ≤ z2 ∧ z2 < ((2 ^ P : Nat) : Int)
    · obtain ⟨s, rfl⟩ : ∃ s : Nat, z2 = s := ⟨z2.toNat, by omega⟩
      rw [Int.toNat_natCast] at no
      have ps := pc s (by omega)
      rw [if_pos (sh.mpr b1), bc_e h (by omega)]
      by_cases b2 : pc8_ s ≤ 5
      · rw [if_pos (show jI (pc8_ s : Int) ≤ (5 : Int32) from (jI_le (b := 5) (by omega) (by omega) (by omega) (by omega)).mpr (by omega)), show f_X11_checkPlanned_33 x x_FU h (jI (s : Int)) 0 = _ from c_ck33 I hP (by omega)]
        by_cases b5 : ptd_ (wd x h) s P = true
        · rw [if_pos b5, xb_e]
        · have b5' : ptd_ (wd x h) s P = false := by simpa using b5
          rw [if_neg b5, xb_v]
          unfold f_X11_checkPer f_X11_checkPer_10
          by_cases b3 : 1 ≤ z3 ∧ z3 ≤ 3
          · rw [if_neg (fun q => absurd (a1.mp q) (by omega)), if_pos (a2.mpr b3.2), xb_v]
            unfold f_X11_checkSeconds f_X11_checkSeconds_11
            by_cases b4 : 1 ≤ z4 ∧ z4 ≤ 60
            · exact absurd ⟨⟨b1, by rw [Int.toNat_natCast]; exact b2, b3, b4⟩, b5'⟩ no
            · by_cases d : z4 < 1
              · rw [if_pos (a3.mpr d), xb_e]
              · rw [if_neg (fun q => d (a3.mp q)), if_neg (fun q => absurd (a4.mp q) (by omega)), xb_e]
          · by_cases d : z3 < 1
            · rw [if_pos (a1.mpr d), xb_e]
            · rw [if_neg (fun q => d (a1.mp q)), if_neg (fun q => absurd (a2.mp q) (by omega)), xb_e]
      · rw [if_neg (show ¬ jI (pc8_ s : Int) ≤ (5 : Int32) from fun q => absurd ((jI_le (b := 5) (by omega) (by omega) (by omega) (by omega)).mp q) (by omega))]
        unfold f_X11_checkPlanned_20
        rw [xb_e]
    · rw [if_neg (fun q => b1 (sh.mp q))]
      unfold f_X11_checkPlanned_20
      rw [xb_e]
