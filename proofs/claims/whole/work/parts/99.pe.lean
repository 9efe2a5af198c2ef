/-! ===== plan, reference ===== -/
def RFp (x : Nat) (h : XH) (H : Nat) (l : List Nat) (W : Nat → Nat → Int) : Prop := (∀ k, k < l.length → h.1 (x + 74) k = jI (l.getD k 0 : Nat)) ∧ ∀ k d, k < l.length → d < H → h.1 (x + 75) (6 * k + d) = jI (W k d)
theorem r_p138 {gh : Nat} {x : Nat} {K : XK} {h : XH} (I : Inv gh x K h) {i t H : Nat} {l : List Nat} (hH : wd x h 0 = H) (hi : (i : Int) < wd x h 1) (ht : (t : Int) < wd x h 2) {per sec : Int} {v2 v5 v6 : Int32} {k99 : XH → Int32 → Int32 → Int32 → Int32 → Int32 → Int32 → Int32 → Int32 → Option (Int32 × XH)} (hl : l.length < 8) (b2 : 1 ≤ per ∧ per ≤ 3) (b3 : 1 ≤ sec ∧ sec ≤ 60) (rf : RFp x h H l (Wl (wd x h) t per sec H l)) :
    ∃ h2, f_X12_plan_138 k99 x x_FU h (jI t) v2 (jI per) (jI sec) v5 v6 (jI l.length) (jI i) (jI 0) = k99 h2 (jI t) v2 (jI per) (jI sec) v5 v6 (jI ((l.length + 1 : Nat) : Int)) (jI ((i + 1 : Nat) : Int)) ∧ RFp x h2 H (l ++ [i]) (Wl (wd x h) t per sec H (l ++ [i])) ∧ SF x h h2 := by
  have w0 := I.w0
  have w1 := I.w1
  have w2 := I.w2
  have z0 : (0 : Int32).toNatClampNeg = 0 := rfl
  have el : (l ++ [i]).length = l.length + 1 := by rw [List.length_append]; rfl
  have key := x_up0 (P := fun m j => ∀ h1 : XH, SF x h h1 → (∀ k, k < l.length → h1.1 (x + 74) k = jI (l.getD k 0 : Nat)) → (∀ k d, k < l.length + 1 → d < H → k < l.length ∨ d < j → h1.1 (x + 75) (6 * k + d) = jI (Wl (wd x h) t per sec H (l ++ [i]) k d)) → ∃ h2, f_X12_plan_138 k99 x m h1 (jI t) v2 (jI per) (jI sec) v5 v6 (jI l.length) (jI i) (jI (j : Int)) = k99 h2 (jI t) v2 (jI per) (jI sec) v5 v6 (jI ((l.length + 1 : Nat) : Int)) (jI ((i + 1 : Nat) : Int)) ∧ RFp x h2 H (l ++ [i]) (Wl (wd x h) t per sec H (l ++ [i])) ∧ SF x h h2) H (by omega) (fun m h1 f1 r1 r2 => by
    have ew := f1.fr.ew
    have e0 : h1.1 (x + 65) 0 = jI (wd x h 0) := by rw [wd_j, ew]
    refine ⟨x_i h1 (x + 74) l.length (jI (i : Int)), ?_, ⟨fun k hk => ?_, fun k d hk hd => ?_⟩, f1.tr (SF.i (by decide))⟩
    · rw [f_X12_plan_138, if_pos (show x_b 0 6927 = true by decide), z0, e0, if_pos ((jI_le (by omega) (by omega) (by omega) (by omega)).mpr (by omega)), if_pos (jI_b (by omega) (by omega) (by omega)), xl_, nat_ (by omega)]
      unfold f_X12_plan_192
      rw [jI_s i, jI_s l.length]
    · by_cases e : k = l.length
      · rw [e, gi_s, gD_r]
      · rw [gi_k e, gD_l (by omega)]
        exact r1 k (by omega)
    · rw [gi_a (by omega)]
      exact r2 k d (by omega) hd (.inr hd)) (fun m j hj ih h1 f1 r1 r2 => by
    have ew := f1.fr.ew
    have J := I.fr f1.fr
    have e0 : h1.1 (x + 65) 0 = jI (wd x h 0) := by rw [wd_j, ew]
    have s1 := r_sif J (p := i) (t := t) (by rw [ew]; exact hi) (by rw [ew]; exact ht) (hs := (j : Int)) (per := per) (sec := sec) (by rw [ew]; omega) b2 b3
    rw [ew] at s1
    obtain ⟨h3, s1, s2, s3⟩ := s1
    have f3 : SF x h1 h3 := SF.o2 s2 s3 (by decide) (by decide)
    have ix : 6 * jI (l.length : Int) + jI (j : Int) = jI ((6 * l.length + j : Nat) : Int) := by
      rw [show (6 : Int32) = jI 6 from rfl, jI_mul, jI_add]
      rfl
    rw [f_X12_plan_138, if_pos (show x_b 0 6927 = true by decide), z0, e0, if_neg (fun q => absurd ((jI_le (by omega) (by omega) (by omega) (by omega)).mp q) (by omega)), s1, Option.bind_some, ix, if_pos (jI_b (by omega) (by omega) (by omega)), xl_, nat_ (by omega), jI_s j]
    refine ih _ (f1.tr (f3.tr (SF.i (by decide)))) (fun k hk => ?_) (fun k d hk hd hh => ?_)
    · rw [gi_a (by omega), s2 _ (by omega) (by omega)]
      exact r1 k hk
    · rw [gi_, s2 _ (by omega) (by omega)]
      by_cases c : k = l.length ∧ d = j
      · rw [if_pos ⟨rfl, by omega⟩]
        unfold Wl
        rw [if_pos ⟨by omega, by omega⟩, c.1, gD_r, c.2]
      · rw [if_neg (by omega)]
        exact r2 k d hk hd (by omega))
  refine key h SF.rf rf.1 (fun k d hk hd hh => ?_)
  rw [rf.2 k d (by omega) hd, Wl_a (by omega)]
theorem r_p99 {gh : Nat} {x : Nat} {K : XK} {h : XH} (I : Inv gh x K h) {t H P s : Nat} (hH : wd x h 0 = H) (hP : wd x h 1 = P) (ht : (t : Int) < wd x h 2) {per sec : Int} {v5 : Int32} (hs : s < 256) (b2 : 1 ≤ per ∧ per ≤ 3) (b3 : 1 ≤ sec ∧ sec ≤ 60) :
    ∃ h2, SF x h h2 ∧ (ptd_ (wd x h) s P = true → f_X12_plan_99 x x_FU h (jI t) (jI s) (jI per) (jI sec) v5 (jI 0) (jI 0) (jI 0) = some (0, x_i h2 (x + 64) 0 (jI 2))) ∧ (ptd_ (wd x h) s P = false → f_X12_plan_99 x x_FU h (jI t) (jI s) (jI per) (jI sec) v5 (jI 0) (jI 0) (jI 0) = f_X12_plan_216 x x_FU h2 v5 (jI (qs_ s P).length) 1 0 ∧ RFp x h2 H (qs_ s P) (Wl (wd x h) t per sec H (qs_ s P))) := by
  have w0 := I.w0
  have w1 := I.w1
  have w2 := I.w2
  have z1 : (1 : Int32).toNatClampNeg = 1 := rfl
  have key := x_up0 (P := fun m i => ∀ h1 : XH, SF x h h1 → RFp x h1 H (qs_ s i) (Wl (wd x h) t per sec H (qs_ s i)) → ∃ h2, SF x h h2 ∧ (ptd_ (wd x h) s P = true → f_X12_plan_99 x m h1 (jI t) (jI s) (jI per) (jI sec) v5 (jI (if ptd_ (wd x h) s i = true then 1 else 0)) (jI (qs_ s i).length) (jI (i : Int)) = some (0, x_i h2 (x + 64) 0 (jI 2))) ∧ (ptd_ (wd x h) s P = false → f_X12_plan_99 x m h1 (jI t) (jI s) (jI per) (jI sec) v5 (jI (if ptd_ (wd x h) s i = true then 1 else 0)) (jI (qs_ s i).length) (jI (i : Int)) = f_X12_plan_216 x x_FU h2 v5 (jI (qs_ s P).length) 1 0 ∧ RFp x h2 H (qs_ s P) (Wl (wd x h) t per sec H (qs_ s P)))) P (by omega) (fun m h1 f1 rf => by
    have ew := f1.fr.ew
    have e1 : h1.1 (x + 65) 1 = jI (wd x h 1) := by rw [wd_j, ew]
    refine ⟨h1, f1, fun pt => ?_, fun pt => ⟨?_, rf⟩⟩
    · rw [f_X12_plan_99, if_pos (show x_b 1 6927 = true by decide), z1, e1, if_pos ((jI_le (by omega) (by omega) (by omega) (by omega)).mpr (by omega)), if_pos pt]
      unfold f_X12_plan_198
      rw [tvo, Option.bind_some, if_neg (show ¬ jI 1 = (0 : Int32) by decide)]
      rfl
    · rw [f_X12_plan_99, if_pos (show x_b 1 6927 = true by decide), z1, e1, if_pos ((jI_le (by omega) (by omega) (by omega) (by omega)).mpr (by omega)), pt, if_neg (by decide)]
      unfold f_X12_plan_198
      rw [tvz, Option.bind_some, if_pos (show jI 0 = (0 : Int32) from rfl)]) (fun m i hi ih h1 f1 rf => by
    have ew := f1.fr.ew
    have J := I.fr f1.fr
    have e1 : h1.1 (x + 65) 1 = jI (wd x h 1) := by rw [wd_j, ew]
    have eq : qs_ s (i + 1) = if s.testBit i = true then qs_ s i ++ [i] else qs_ s i := rfl
    have ep : ptd_ (wd x h) s (i + 1) = (ptd_ (wd x h) s i || (s.testBit i && decide (0 < wd x h (290 + 81 * i + 3)))) := rfl
    have lq := qs_le (s := s) i
    rw [f_X12_plan_99, if_pos (show x_b 1 6927 = true by decide), z1, e1, if_neg (fun q => absurd ((jI_le (by omega) (by omega) (by omega) (by omega)).mp q) (by omega))]
    by_cases pi : ptd_ (wd x h) s i = true
    · have pP : ptd_ (wd x h) s P = true := by
        have := ptd_m (w := wd x h) (s := s) (P - i) i pi
        rw [show i + (P - i) = P by omega] at this
        exact this
      rw [if_pos pi, if_neg (show ¬ jI 1 = (0 : Int32) by decide)]
      refine ⟨h1, f1, fun _ => ?_, fun q => absurd pP (by rw [q]; decide)⟩
      unfold f_X12_plan_198
      rw [tvo, Option.bind_some, if_neg (show ¬ jI 1 = (0 : Int32) by decide)]
      rfl
    · have pi' : ptd_ (wd x h) s i = false := by simpa using pi
      rw [pi', Bool.false_or] at ep
      rw [if_neg pi, if_pos (show jI 0 = (0 : Int32) from rfl), bi_at (by omega), bi_n (by omega) (by omega)]
      by_cases c : s.testBit i = true
      · rw [if_pos c] at eq
        rw [c, Bool.true_and] at ep
        rw [if_pos c, if_neg (show ¬ (1 : Int32) = 0 by decide)]
        have ip := r_isp J (p := i) (by rw [ew]; omega)
        rw [ew] at ip
        have k8 := r_p138 J (i := i) (t := t) (H := H) (l := qs_ s i) (per := per) (sec := sec) (v2 := jI (s : Int)) (v5 := v5) (v6 := jI (if 0 < wd x h (290 + 81 * i + 3) then 1 else 0)) (k99 := f_X12_plan_99 x m) (by rw [ew]; exact hH) (by rw [ew]; omega) (by rw [ew]; exact ht) (by omega) b2 b3 (by rw [ew]; exact rf)
        rw [ew] at k8
        obtain ⟨h3, k1, k2, k3⟩ := k8
        have el : (qs_ s i ++ [i]).length = (qs_ s i).length + 1 := by rw [List.length_append]; rfl
        rw [ip, Option.bind_some, show (0 : Int32) = jI 0 from rfl, k1]
        rw [eq, ep, el] at ih
        have e9 : (if decide (0 < wd x h (290 + 81 * i + 3)) = true then (1 : Int) else 0) = if 0 < wd x h (290 + 81 * i + 3) then 1 else 0 := by
          by_cases d : 0 < wd x h (290 + 81 * i + 3)
          · rw [decide_eq_true d, if_pos rfl, if_pos d]
          · rw [decide_eq_false d, if_neg (by decide), if_neg d]
        rw [e9] at ih
        exact ih h3 (f1.tr k3) k2
      · rw [if_neg c] at eq
        rw [show s.testBit i = false by simpa using c, Bool.false_and] at ep
        rw [if_neg c, if_pos rfl]
        unfold f_X12_plan_192
        rw [jI_s i]
        rw [eq, ep] at ih
        exact ih h1 f1 rf)
  exact key h SF.rf ⟨fun k hk => absurd hk (by simp [qs_]), fun k d hk => absurd hk (by simp [qs_])⟩
theorem r_pl {gh : Nat} {x : Nat} {K : XK} {h : XH} (I : Inv gh x K h) {t H P : Nat} (hH : wd x h 0 = H) (hP : wd x h 1 = P) (ht : (t : Int) < wd x h 2) {z2 z3 z4 z5 : Int} {u : Int32} (r2 : -2147483648 ≤ z2 ∧ z2 < 2147483648) (r3 : -2147483648 ≤ z3 ∧ z3 < 2147483648) (r4 : -2147483648 ≤ z4 ∧ z4 < 2147483648) (r5 : -2147483648 ≤ z5 ∧ z5 < 2147483648) (hu : u = if f_X12_in h (jI z2) 0 (x_shl 1 (h.1 (x + 65) (1 : Int32).toNatClampNeg) - 1) = 0 then 1 else if 5 < f_J6_bitCount_0f7a4 h (jI z2) then 1 else if f_X12_in h (jI z3) 1 3 = 0 then 1 else if f_X12_noSeconds h (jI z4) = 0 then 0 else 1) :
    (PO (wd x h) z2 z3 z4 P ∧ ptd_ (wd x h) z2.toNat P = false → ∃ h2, f_X12_plan_99 x x_FU h (jI t) (jI z2) (jI z3) (jI z4) (jI z5) u 0 0 = some (jI (vP_ (wd x h) t z2.toNat z3 z4 z5 H P), h2) ∧ SF x h h2) ∧ (¬ (PO (wd x h) z2 z3 z4 P ∧ ptd_ (wd x h) z2.toNat P = false) → ∃ h2, f_X12_plan_99 x x_FU h (jI t) (jI z2) (jI z3) (jI z4) (jI z5) u 0 0 = some (0, x_i h2 (x + 64) 0 (jI 2)) ∧ SF x h h2) := by
  have w0 := I.w0
  have w1 := I.w1
  have w2 := I.w2
  have z1 : (1 : Int32).toNatClampNeg = 1 := rfl
  have e1 : h.1 (x + 65) 1 = jI (wd x h 1) := wd_j x h 1
  have p8 : 2 ^ P ≤ 256 := Nat.pow_le_pow_right (n := 2) (by omega) (show P ≤ 8 by omega)
  have p1 : 0 < 2 ^ P := Nat.pow_pos (by omega)
  have pc : ∀ s : Nat, s < 256 → pc8_ s ≤ 8 := fun s hs => by
    rw [← qs_8 ⟨s, hs⟩]
    exact qs_le 8
  have i2 := in_9 (h := h) (z := z2) (a := 0) (b := ((2 ^ P : Nat) : Int) - 1) r2.1 r2.2 (by omega) (by omega) (by omega) (by omega)
  have i3 := in_9 (h := h) (z := z3) (a := 1) (b := 3) r3.1 r3.2 (by omega) (by omega) (by omega) (by omega)
  have i4 := in_9 (h := h) (z := z4) (a := 1) (b := 60) r4.1 r4.2 (by omega) (by omega) (by omega) (by omega)
  have pw : x_shl 1 (jI (P : Int)) - 1 = jI (((2 ^ P : Nat) : Int) - 1) := pw8_ ⟨P, by omega⟩
  have hu' : (PO (wd x h) z2 z3 z4 P → u = 0) ∧ (¬ PO (wd x h) z2 z3 z4 P → u = 1) := by
    rw [hu, z1, e1, hP, pw, show f_X12_in h (jI z2) 0 (jI (((2 ^ P : Nat) : Int) - 1)) = _ from i2, show f_X12_in h (jI z3) 1 3 = _ from i3]
    unfold f_X12_noSeconds
    rw [show f_X12_in h (jI z4) 1 60 = _ from i4]
    unfold PO
    by_cases c1 : 0 ≤ z2 ∧ z2 < ((2 ^ P : Nat) : Int)
    · obtain ⟨s, rfl⟩ : ∃ s : Nat, z2 = s := ⟨z2.toNat, by omega⟩
      have ps := pc s (by omega)
      rw [if_pos (show 0 ≤ (s : Int) ∧ (s : Int) ≤ ((2 ^ P : Nat) : Int) - 1 by omega), if_neg (show ¬ (1 : Int32) = 0 by decide), bc_e h (by omega), Int.toNat_natCast]
      have lt : (5 : Int32) < jI (pc8_ s : Int) ↔ (5 : Int) < (pc8_ s : Int) := jI_lt (a := 5) (by omega) (by omega) (by omega) (by omega)
      by_cases c2 : pc8_ s ≤ 5
      · rw [if_neg (fun q => absurd (lt.mp q) (by omega))]
        by_cases c3 : 1 ≤ z3 ∧ z3 ≤ 3
        · rw [if_pos c3, if_neg (show ¬ (1 : Int32) = 0 by decide)]
          by_cases c4 : 1 ≤ z4 ∧ z4 ≤ 60
          · rw [if_pos c4, if_neg (show ¬ (1 : Int32) = 0 by decide), if_pos rfl]
            exact ⟨fun _ => rfl, fun q => absurd ⟨c1, c2, c3, c4⟩ q⟩
          · rw [if_neg c4, if_pos rfl, if_neg (show ¬ (1 : Int32) = 0 by decide)]
            exact ⟨fun q => absurd q.2.2.2 c4, fun _ => rfl⟩
        · rw [if_neg c3, if_pos rfl]
          exact ⟨fun q => absurd q.2.2.1 c3, fun _ => rfl⟩
      · rw [if_pos (lt.mpr (by omega))]
        exact ⟨fun q => absurd q.2.1 c2, fun _ => rfl⟩
    · rw [if_neg (show ¬ (0 ≤ z2 ∧ z2 ≤ ((2 ^ P : Nat) : Int) - 1) by omega), if_pos rfl]
      exact ⟨fun q => absurd q.1 c1, fun _ => rfl⟩
  by_cases ok : PO (wd x h) z2 z3 z4 P
  · obtain ⟨b1, b2, b3, b4⟩ := id ok
    rw [hu'.1 ok]
    obtain ⟨s, rfl⟩ : ∃ s : Nat, z2 = s := ⟨z2.toNat, by omega⟩
    rw [Int.toNat_natCast] at b2 ⊢
    have lq : (qs_ s P).length = pc8_ s := by
      have a := qs_8 ⟨s, by omega⟩
      have b := qs_t (s := s) (P := P) (by omega) (8 - P)
      rw [show P + (8 - P) = 8 by omega] at b
      rw [← a, b]
    obtain ⟨h2, k1, k2, k3⟩ := r_p99 I (t := t) (H := H) (P := P) (s := s) (per := z3) (sec := z4) (v5 := jI z5) hH hP ht (by omega) b3 b4
    have k2' : ptd_ (wd x h) s P = true → f_X12_plan_99 x x_FU h (jI t) (jI s) (jI z3) (jI z4) (jI z5) 0 0 0 = _ := k2
    have k3' : ptd_ (wd x h) s P = false → f_X12_plan_99 x x_FU h (jI t) (jI s) (jI z3) (jI z4) (jI z5) 0 0 0 = _ ∧ _ := k3
    refine ⟨fun q => ?_, fun q => ?_⟩
    · obtain ⟨k4, k5⟩ := k3' q.2
      refine ⟨h2, ?_, k1⟩
      have ew := k1.fr.ew
      have e0 : h2.1 (x + 65) 0 = jI H := by rw [wd_j, ew, hH]
      have Wb := Wl_b I (t := t) (H := H) (P := P) (s := s) (per := z3) (sec := z4) hP
      have fr := fw_r (W := Wl (wd x h) t z3 z4 H (qs_ s P)) (H := H) (n := (qs_ s P).length) (H ^ (qs_ s P).length)
      have b := fr.2.2.1
      have fb := fw_b (W := Wl (wd x h) t z3 z4 H (qs_ s P)) (H := H) (n := (qs_ s P).length) (by omega) Wb _ (Nat.le_refl _)
      have hN : H ^ (qs_ s P).length ≤ 7776 := by
        have : H ^ (qs_ s P).length ≤ 6 ^ (qs_ s P).length := Nat.pow_le_pow_left (show H ≤ 6 by omega) _
        have : 6 ^ (qs_ s P).length ≤ 6 ^ 5 := Nat.pow_le_pow_right (by omega) (show (qs_ s P).length ≤ 5 by omega)
        omega
      rw [k4, r_216 e0 (by omega), r_249 e0 (by omega) (by omega) Wb k5.2]
      unfold f_X12_plan_413 vP_
      have iff := fr.2.2.2.2.1
      have lw := fr.2.2.2.1
      generalize hF : fw_ (Wl (wd x h) t z3 z4 H (qs_ s P)) H (qs_ s P).length (H ^ (qs_ s P).length) = F at b fb iff lw
      have q0 : jI F.2 < (0 : Int32) ↔ F.2 < 0 := jlt0 (by omega) (by omega)
      have q1 : (0 : Int32) ≤ jI F.2 ↔ 0 ≤ F.2 := jge0 (by omega) (by omega)
      by_cases c : F.2 < 0
      · have c1 : F.1 = -1 := iff.mp (by omega)
        rw [if_pos (q0.mpr c), if_neg (fun z => absurd (q1.mp z) (by omega)), c1]
        rw [if_pos rfl, ite_self]
        rfl
      · have c1 : ¬ F.1 = -1 := fun z => absurd (iff.mpr z) (by omega)
        rw [if_neg (fun z => c (q0.mp z)), if_neg c1]
        by_cases d : z5 = -1
        · rw [if_pos ((jm1 r5.1 r5.2).mpr d), if_pos d, if_pos (q1.mpr (by omega))]
        · rw [if_neg (fun z => d ((jm1 r5.1 r5.2).mp z)), if_neg d]
          obtain ⟨wv, hwv⟩ : ∃ wv : Nat, F.2 = wv := ⟨F.2.toNat, by omega⟩
          rw [hwv, Int.toNat_natCast]
          exact r_435 e0 (by omega) r5 (qs_hi (by omega)) (qs_ s P).length wv x_FU (by omega) (by show (qs_ s P).length < 100000; omega) (by omega) k5.1 (qs_in P)
    · have pt : ptd_ (wd x h) s P = true := by
        by_cases c : ptd_ (wd x h) s P = true
        · exact c
        · exact absurd ⟨ok, by simpa using c⟩ q
      exact ⟨h2, k2' pt, k1⟩
  · rw [hu'.2 ok]
    refine ⟨fun q => absurd q.1 ok, fun _ => ⟨h, ?_, SF.rf⟩⟩
    have th : ∀ v7 : Int32, f_X12_plan_198 x h (jI z5) 1 v7 = some (0, x_i h (x + 64) 0 (jI 2)) := fun v7 => by
      unfold f_X12_plan_198
      rw [show f_X12_throwsIf x h 1 2 = _ from tvo, Option.bind_some, if_neg (show ¬ jI 1 = (0 : Int32) by decide)]
      rfl
    have fu : x_FU = 99999 + 1 := rfl
    rw [fu, f_X12_plan_99, if_pos (show x_b 1 6927 = true by decide), z1, e1, hP]
    by_cases c : P = 0
    · rw [c, if_pos (show jI ((0 : Nat) : Int) ≤ (0 : Int32) by decide), th]
    · rw [if_neg (show ¬ jI (P : Int) ≤ (0 : Int32) from fun q => absurd ((jI_le (b := 0) (by omega) (by omega) (by omega) (by omega)).mp q) (by omega)), if_neg (show ¬ (1 : Int32) = 0 by decide), th]
theorem P_row31 {gh : Nat} {x : Nat} {K : XK} {h : XH} (T : x_T x K h) (I : Inv gh x K h) (a1 a2 a3 a4 a5 : Int32) : ∃ h', f_row31 K x h a1 a2 a3 a4 a5 = some h' ∧ Inv gh x K h' := by
  obtain ⟨z1, z1a, z1b, rfl⟩ := jI_ex a1
  obtain ⟨z2, z2a, z2b, rfl⟩ := jI_ex a2
  obtain ⟨z3, z3a, z3b, rfl⟩ := jI_ex a3
  obtain ⟨z4, z4a, z4b, rfl⟩ := jI_ex a4
  obtain ⟨z5, z5a, z5b, rfl⟩ := jI_ex a5
  have e0 : ∀ b1 b2 b3 b4 b5, f_row31 K x h b1 b2 b3 b4 b5 = rc_ x (x_lb (f_X11_plan K x h b1 b2 b3 b4 b5) [0, 1] (fun v h => x_l h (x + 76) (0 : Int32).toNatClampNeg v.toInt64)) (fun h => f_X12_plan x h b1 b2 b3 b4 b5) := fun _ _ _ _ _ => rfl
  rw [e0]
  have w0 := I.w0
  have w1 := I.w1
  have w2 := I.w2
  obtain ⟨H, hH⟩ : ∃ H : Nat, wd x h 0 = H := ⟨(wd x h 0).toNat, by omega⟩
  obtain ⟨P, hP⟩ : ∃ P : Nat, wd x h 1 = P := ⟨(wd x h 1).toNat, by omega⟩
  by_cases cL : 0 ≤ z1 ∧ z1 < wd x h 2
  · obtain ⟨t, rfl⟩ : ∃ t : Nat, z1 = t := ⟨z1.toNat, by omega⟩
    by_cases cP : z5 = -1 ∨ (0 ≤ z5 ∧ z5 < wd x h 1)
    · have cc := c_17 T I (t := t) (H := H) (P := P) (z2 := z2) (z3 := z3) (z4 := z4) (z5 := z5) hH hP cL.2 ⟨z2a, z2b⟩ ⟨z3a, z3b⟩ ⟨z4a, z4b⟩ ⟨z5a, z5b⟩
      have ec : f_X11_plan K x h (jI t) (jI z2) (jI z3) (jI z4) (jI z5) = f_X11_plan_17 K x h (jI t) (jI z2) (jI z3) (jI z4) (jI z5) := by
        unfold f_X11_plan
        rw [ckL_y I cL, xb_v]
        by_cases d : z5 = -1
        · rw [if_pos ((jm1 z5a z5b).mpr d)]
        · rw [if_neg (fun q => d ((jm1 z5a z5b).mp q)), ckP_y I (by omega), xb_v]
      have er : ∀ H0 : XH, Inv gh x K H0 → wd x H0 = wd x h → ∃ u : Int32, f_X12_plan x H0 (jI t) (jI z2) (jI z3) (jI z4) (jI z5) = f_X12_plan_99 x x_FU (x_i H0 (x + 64) 0 (jI 0)) (jI t) (jI z2) (jI z3) (jI z4) (jI z5) u 0 0 ∧ u = if f_X12_in (x_i H0 (x + 64) 0 (jI 0)) (jI z2) 0 (x_shl 1 ((x_i H0 (x + 64) 0 (jI 0)).1 (x + 65) (1 : Int32).toNatClampNeg) - 1) = 0 then 1 else if 5 < f_J6_bitCount_0f7a4 (x_i H0 (x + 64) 0 (jI 0)) (jI z2) then 1 else if f_X12_in (x_i H0 (x + 64) 0 (jI 0)) (jI z3) 1 3 = 0 then 1 else if f_X12_noSeconds (x_i H0 (x + 64) 0 (jI 0)) (jI z4) = 0 then 0 else 1 := fun H0 J eH => by
        have ew : wd x (x_i H0 (x + 64) 0 (jI 0)) = wd x h := by rw [wm0, eH]
        have e1 := ckL_ry J.m0 (z := (t : Int)) (by rw [ew]; exact cL)
        refine ⟨_, ?_, rfl⟩
        unfold f_X12_plan
        rw [xl_, show x_i H0 (x + 64) 0 (0 : Int32) = x_i H0 (x + 64) 0 (jI 0) from rfl, e1, Option.bind_some, if_pos (show jI 0 = (0 : Int32) from rfl)]
        by_cases d : z5 = -1
        · rw [if_pos ((jm1 z5a z5b).mpr d)]
          unfold f_X12_plan_33 f_X12_plan_34
          rw [show f_X12_throwsIf x (x_i H0 (x + 64) 0 (jI 0)) 0 1 = _ from tvz, Option.bind_some, if_pos (show jI 0 = (0 : Int32) from rfl), if_pos (show x_b 1 6927 = true by decide), xl_]
        · have e2 := ckP_ry J.m0 (z := z5) (by rw [ew]; omega)
          rw [if_neg (fun q => d ((jm1 z5a z5b).mp q)), e2, Option.bind_some, if_pos (show jI 0 = (0 : Int32) from rfl), show f_X12_throwsIf x (x_i H0 (x + 64) 0 (jI 0)) 0 1 = _ from tvz, Option.bind_some, if_pos (show jI 0 = (0 : Int32) from rfl), if_pos (show x_b 1 6927 = true by decide), xl_]
      have rr : ∀ H0 : XH, Inv gh x K H0 → wd x H0 = wd x h → ∀ u, u = _ → _ := fun H0 J eH u hu => r_pl J.m0 (t := t) (H := H) (P := P) (z2 := z2) (z3 := z3) (z4 := z4) (z5 := z5) (u := u) (by rw [wm0, eH]; exact hH) (by rw [wm0, eH]; exact hP) (by rw [wm0, eH]; exact cL.2) ⟨z2a, z2b⟩ ⟨z3a, z3b⟩ ⟨z4a, z4b⟩ ⟨z5a, z5b⟩ hu
      by_cases ok : PO (wd x h) z2 z3 z4 P ∧ ptd_ (wd x h) z2.toNat P = false
      · obtain ⟨h2, k1, k2⟩ := cc.1 ok
        refine rc_q I (res := .inr (jI (vP_ (wd x h) t z2.toNat z3 z4 z5 H P))) ⟨h2, by rw [ec, k1], k2.fr⟩ (fun H0 J eH => ?_)
        obtain ⟨u, u1, u2⟩ := er H0 J eH
        have r := (rr H0 J eH u u2).1
        rw [wm0, eH] at r
        obtain ⟨h3, m1, m2⟩ := r ok
        refine ⟨_, h3, by rw [u1, m1], fr_0.tr m2.fr, by rw [m2.2]; rfl, ?_, rfl⟩
        have q : ∀ o, o ∈ sc_ → o ≠ 64 := by decide
        rw [m2.1 _ (fun o ho => by have := q o ho; omega), gi_s]
        rfl
      · refine rc_q I (res := .inl 1) ⟨h, by rw [ec, cc.2 ok], Fr.rf⟩ (fun H0 J eH => ?_)
        obtain ⟨u, u1, u2⟩ := er H0 J eH
        have r := (rr H0 J eH u u2).2
        rw [wm0, eH] at r
        obtain ⟨h3, m1, m2⟩ := r ok
        exact ⟨0, x_i h3 (x + 64) 0 (jI 2), by rw [u1, m1], fr_0.tr (m2.fr.tr fr_0), by rw [gi_2, m2.2]; rfl, 1, rfl, by decide, gi_s⟩
    · refine rc_q I (res := .inl 0) ⟨h, ?_, Fr.rf⟩ (fun H J eH => ⟨jI 0, x_i (x_i H (x + 64) 0 (jI 0)) (x + 64) 0 (jI 1), ?_, fr_t, rfl, 0, rfl, by decide, gi_s⟩)
      · unfold f_X11_plan
        rw [ckL_y I cL, xb_v, if_neg (fun q => cP (.inl ((jm1 z5a z5b).mp q))), ckP_n I ⟨z5a, z5b⟩ (fun q => cP (.inr q)), xb_e]
      · have ew : wd x (x_i H (x + 64) 0 (jI 0)) = wd x h := by rw [wm0, eH]
        have e1 := ckL_ry J.m0 (z := (t : Int)) (by rw [ew]; exact cL)
        have e2 := ckP_rn J.m0 (z := z5) ⟨z5a, z5b⟩ (by rw [ew]; exact fun q => cP (.inr q))
        unfold f_X12_plan
        rw [xl_, show x_i H (x + 64) 0 (0 : Int32) = x_i H (x + 64) 0 (jI 0) from rfl, e1, Option.bind_some, if_pos (show jI 0 = (0 : Int32) from rfl), if_neg (fun q => cP (.inl ((jm1 z5a z5b).mp q))), e2, Option.bind_some, if_neg (show ¬ jI 1 = (0 : Int32) by decide), show f_X12_throwsIf x (x_i H (x + 64) 0 (jI 0)) 1 1 = _ from tvo, Option.bind_some, if_neg (show ¬ jI 1 = (0 : Int32) by decide)]
        rfl
  · refine rc_q I (res := .inl 0) ⟨h, ?_, Fr.rf⟩ (fun H J eH => ⟨jI 0, x_i (x_i H (x + 64) 0 (jI 0)) (x + 64) 0 (jI 1), ?_, fr_t, rfl, 0, rfl, by decide, gi_s⟩)
    · unfold f_X11_plan
      rw [ckL_n I ⟨z1a, z1b⟩ cL, xb_e]
    · have ew : wd x (x_i H (x + 64) 0 (jI 0)) = wd x h := by rw [wm0, eH]
      have e1 := ckL_rn J.m0 ⟨z1a, z1b⟩ (by rw [ew]; exact cL)
      unfold f_X12_plan
      rw [xl_, show x_i H (x + 64) 0 (0 : Int32) = x_i H (x + 64) 0 (jI 0) from rfl, e1, Option.bind_some, if_neg (show ¬ jI 1 = (0 : Int32) by decide)]
      unfold f_X12_plan_29 f_X12_plan_34
      rw [show f_X12_throwsIf x (x_i H (x + 64) 0 (jI 0)) 1 1 = _ from tvo, Option.bind_some, if_neg (show ¬ jI 1 = (0 : Int32) by decide)]
      rfl
