/-! ===== again: the sets ===== -/
def bq_ (f : Nat → Int) (mo : Int) : Nat → Nat × Int
  | 0 => (0, f 0)
  | n + 1 => if (pc8_ (n + 1) : Int) ≤ mo ∧ ((bq_ f mo n).2 < f (n + 1) ∨ f (n + 1) = (bq_ f mo n).2 ∧ pc8_ (n + 1) < pc8_ (bq_ f mo n).1) then (n + 1, f (n + 1)) else bq_ f mo n
theorem bq_b {f : Nat → Int} {mo : Int} (hf : ∀ s, 0 ≤ f s ∧ f s ≤ 5200) : ∀ n, (bq_ f mo n).1 ≤ n ∧ 0 ≤ (bq_ f mo n).2 ∧ (bq_ f mo n).2 ≤ 5200 := by
  intro n
  induction n with
  | zero => exact ⟨Nat.le_refl _, hf 0⟩
  | succ n ih =>
    unfold bq_
    split
    · exact ⟨Nat.le_refl _, hf (n + 1)⟩
    · omega
theorem pw_b : ∀ m : Fin 7, 1 ≤ 2 ^ m.val ∧ 2 ^ m.val ≤ 64 := by decide
theorem c_a89 {gh : Nat} {x : Nat} {K : XK} {h h1 : XH} (I : Inv gh x K h) {p t : Nat} (hp : (p : Int) < wd x h 1) (hq : 0 < wd x h (290 + 81 * p + 3)) (ht : (t : Int) < wd x h 2) {e : Int} (he : 0 ≤ e ∧ e ≤ 99999) (hm : ∀ k : Nat, (k : Int) < wd x h 4 → wd x h (938 + k) ≤ e) {mo : Int} (hmo : 0 ≤ mo ∧ mo < 2147483648) {v5 : Int32} (f1 : ∀ a, a ≠ x + 44 → a ≠ x + 45 → a ≠ x + 47 → a ≠ x + 48 → h1.1 a = h.1 a) (f2 : h1.2 = h.2) (ca : CA (wd x h) t p e x h1) :
    ∃ h2, f_X11_again_89 K x x_FU h1 (jI t) (jI p) (jI mo) (jI e) v5 (jI 0) (jI (sT_ (wd x h) t p e 0)) (jI (sT_ (wd x h) t p e 0)) (jI 1) = some (.inr (if v5 = 0 then jI ((bq_ (sT_ (wd x h) t p e) mo (2 ^ (wd x h 4).toNat - 1)).1 : Int) else jI ((bq_ (sT_ (wd x h) t p e) mo (2 ^ (wd x h 4).toNat - 1)).2 - sT_ (wd x h) t p e 0)), h2) ∧ (∀ a, a ≠ x + 44 → a ≠ x + 45 → a ≠ x + 47 → a ≠ x + 48 → h2.1 a = h.1 a) ∧ h2.2 = h.2 := by
  have w1 := I.w1
  have w2 := I.w2
  have w4 := I.w4
  obtain ⟨r, hr, ct⟩ := I.law ht
  have hx := I.wl ht
  obtain ⟨-, -, -, -, -, -, p7, p8, -⟩ := I.wp hp
  have pb : 1 ≤ 2 ^ (wd x h 4).toNat ∧ 2 ^ (wd x h 4).toNat ≤ 64 := pw_b ⟨(wd x h 4).toNat, by omega⟩
  have pw : x_shl 1 (jI (wd x h 4)) = jI ((2 ^ (wd x h 4).toNat : Nat) : Int) := by
    have := pw_ ⟨(wd x h 4).toNat, by omega⟩
    rw [show ((⟨(wd x h 4).toNat, by omega⟩ : Fin 7).val : Int) = wd x h 4 by show ((wd x h 4).toNat : Int) = _; omega] at this
    exact this
  have fb : ∀ s, 0 ≤ sT_ (wd x h) t p e s ∧ sT_ (wd x h) t p e s ≤ 5200 := fun s => at_b p8
  generalize hM : 2 ^ (wd x h 4).toNat = M at pb pw
  generalize hf : sT_ (wd x h) t p e = f at fb
  have key := x_up0 (P := fun m n => ∀ h1 : XH, (∀ a, a ≠ x + 44 → a ≠ x + 45 → a ≠ x + 47 → a ≠ x + 48 → h1.1 a = h.1 a) → h1.2 = h.2 → CA (wd x h) t p e x h1 → ∃ h2, f_X11_again_89 K x m h1 (jI t) (jI p) (jI mo) (jI e) v5 (jI ((bq_ f mo n).1 : Int)) (jI (f 0)) (jI (bq_ f mo n).2) (jI ((n : Int) + 1)) = some (.inr (if v5 = 0 then jI ((bq_ f mo (M - 1)).1 : Int) else jI ((bq_ f mo (M - 1)).2 - f 0)), h2) ∧ (∀ a, a ≠ x + 44 → a ≠ x + 45 → a ≠ x + 47 → a ≠ x + 48 → h2.1 a = h.1 a) ∧ h2.2 = h.2) (M - 1) (by omega) (fun m h1 f1 f2 ca => by
    refine ⟨h1, ?_, f1, f2⟩
    have e12 : h1.1 (x + 9) 12 = jI (wd x h 4) := by
      rw [f1 _ (by omega) (by omega) (by omega) (by omega)]
      exact I.2.1.1.2.2.2.2.2.2.1
    rw [f_X11_again_89, e12, pw, if_pos ((jI_le (by omega) (by omega) (by omega) (by omega)).mpr (by omega)), jI_sub]) (fun m n hn ih h1 f1 f2 ca => by
    have e12 : h1.1 (x + 9) 12 = jI (wd x h 4) := by
      rw [f1 _ (by omega) (by omega) (by omega) (by omega)]
      exact I.2.1.1.2.2.2.2.2.2.1
    have bb := bq_b (f := f) (mo := mo) fb n
    have fn := fb (n + 1)
    have z1 : pc8_ (n + 1) ≤ 6 := pc_6 ⟨n + 1, by omega⟩
    have z2 : pc8_ (bq_ f mo n).1 ≤ 6 := pc_6 ⟨(bq_ f mo n).1, by omega⟩
    have n1 : jI ((n : Int) + 1) = jI ((n + 1 : Nat) : Int) := rfl
    rw [f_X11_again_89, e12, pw, if_neg (fun q => absurd ((jI_le (by omega) (by omega) (by omega) (by omega)).mp q) (by omega)), n1, bc_e h1 (by omega), xl_]
    unfold f_X11_again_171
    rw [jI_s]
    have e : bq_ f mo (n + 1) = if (pc8_ (n + 1) : Int) ≤ mo ∧ ((bq_ f mo n).2 < f (n + 1) ∨ f (n + 1) = (bq_ f mo n).2 ∧ pc8_ (n + 1) < pc8_ (bq_ f mo n).1) then (n + 1, f (n + 1)) else bq_ f mo n := rfl
    by_cases c1 : (pc8_ (n + 1) : Int) ≤ mo
    · rw [if_neg (fun q => absurd ((jI_lt (by omega) (by omega) (by omega) (by omega)).mp q) (by omega)), if_pos (jI_b (by omega) (by omega) (by omega)), nat_ (by omega), show h1.2.2 (x + 14) t = some r by rw [f2]; exact hr]
      have st := c_sTo I hp hq ct hx he hm (s := n + 1) (by omega) f1 f2 ca
      rw [hf] at st
      obtain ⟨h2, s1, s2, s3, s4⟩ := st
      rw [s1, Option.bind_some, bc_e h2 (by omega)]
      obtain ⟨h3, k1, k2, k3⟩ := ih h2 s2 s3 s4
      refine ⟨h3, ?_, k2, k3⟩
      rw [← k1]
      have l1 : jI (bq_ f mo n).2 < jI (f (n + 1)) ↔ (bq_ f mo n).2 < f (n + 1) := jI_lt (by omega) (by omega) (by omega) (by omega)
      have l2 : jI (f (n + 1)) = jI (bq_ f mo n).2 ↔ f (n + 1) = (bq_ f mo n).2 := jI_eq (by omega) (by omega) (by omega) (by omega)
      have l3 : jI (pc8_ (bq_ f mo n).1 : Int) ≤ jI (pc8_ (n + 1) : Int) ↔ pc8_ (bq_ f mo n).1 ≤ pc8_ (n + 1) := by
        rw [jI_le (by omega) (by omega) (by omega) (by omega)]
        omega
      simp only [l1, l2, l3]
      rw [show ((n + 1 : Nat) : Int) + 1 = ((n + 1 + 1 : Nat) : Int) by omega]
      by_cases d1 : (bq_ f mo n).2 < f (n + 1)
      · rw [if_pos d1, if_pos d1, e, if_pos ⟨c1, Or.inl d1⟩]
      · rw [if_neg d1, if_neg d1]
        by_cases d2 : f (n + 1) = (bq_ f mo n).2
        · rw [if_pos d2, if_pos d2]
          by_cases d3 : pc8_ (bq_ f mo n).1 ≤ pc8_ (n + 1)
          · rw [if_pos d3, if_pos d3, e, if_neg (fun q => by omega)]
          · rw [if_neg d3, if_neg d3, e, if_pos ⟨c1, Or.inr ⟨d2, by omega⟩⟩]
        · rw [if_neg d2, if_neg d2, e, if_neg (fun q => by omega)]
    · rw [if_pos ((jI_lt (by omega) (by omega) (by omega) (by omega)).mpr (by omega))]
      obtain ⟨h3, k1, k2, k3⟩ := ih h1 f1 f2 ca
      refine ⟨h3, ?_, k2, k3⟩
      rw [← k1, e, if_neg (fun q => c1 q.1)]
      rw [show ((n + 1 : Nat) : Int) + 1 = ((n + 1 + 1 : Nat) : Int) by omega])
  have k := key h1 f1 f2 ca
  exact k
/-! the reference -/
theorem r_aBy {gh : Nat} {x : Nat} {K : XK} {h : XH} (I : Inv gh x K h) {p t : Nat} (hp : (p : Int) < wd x h 1) (hq : 0 < wd x h (290 + 81 * p + 3)) (ht : (t : Int) < wd x h 2) {e : Int} (he : 0 ≤ e ∧ e ≤ 99999) (hm : ∀ k : Nat, (k : Int) < wd x h 4 → wd x h (938 + k) ≤ e) {s : Nat} (hs : s < 2 ^ (wd x h 4).toNat) :
    ∃ h2, f_X12_awaitedBy x h (jI t) (jI p) (jI s) (jI e) = some (jI (sT_ (wd x h) t p e s), h2) ∧ (∀ a, a ≠ x + 69 → a ≠ x + 70 → h2.1 a = h.1 a) ∧ h2.2 = h.2 := by
  have w1 := I.w1
  have w4 := I.w4
  have w6 := I.w6
  have gn := I.gn hp
  obtain ⟨-, -, -, -, -, -, p7, p8, -⟩ := I.wp hp
  obtain ⟨tm, q, P1, P2, P3, P4, P5, P6, P7⟩ := I.put hp hq
  obtain ⟨-, -, -, b6, b7, -⟩ := id P2
  have pb : 1 ≤ 2 ^ (wd x h 4).toNat ∧ 2 ^ (wd x h 4).toNat ≤ 64 := pw_b ⟨(wd x h 4).toNat, by omega⟩
  have l6 : lst_ (wd x h 4).toNat s = lst_ 6 s := lst_6 ⟨(wd x h 4).toNat, by omega⟩ ⟨s, by omega⟩ hs
  have lb := lst_b (wd x h 4).toNat s
  have z6 : pc8_ s ≤ 6 := pc_6 ⟨s, by omega⟩
  have l0 : 0 < s → 0 < lst_ (wd x h 4).toNat s := fun q => by rw [l6]; exact lst_0 ⟨s, by omega⟩ q
  have s0 : s = 0 → lst_ (wd x h 4).toNat s = 0 := fun q => by
    rw [l6, q]
    decide
  -- the sum, by which age each card has
  have sum : ∀ v6 : Int32, (0 < s → v6 = jI (wd x h (937 + lst_ (wd x h 4).toNat s))) → ∃ h2, f_X12_awaitedBy_29 x x_FU h (jI t) (jI p) (jI s) (jI e) (jI 0) v6 (jI 0) = some (jI (sT_ (wd x h) t p e s), h2) ∧ (∀ a, a ≠ x + 69 → a ≠ x + 70 → h2.1 a = h.1 a) ∧ h2.2 = h.2 := by
    intro v6 hv
    unfold sT_ at_
    generalize hl : lst_ (wd x h 4).toNat s = l at lb l0 s0 hv
    generalize hz : pc8_ s = z at z6
    have mk : 0 < l → wd x h (937 + l) ≤ e ∧ 1 ≤ wd x h (937 + l) := fun q => by
      have a := hm (l - 1) (by omega)
      have b := I.1.2.2.2.2.2.1.1 (l - 1) (by omega)
      rw [show 938 + (l - 1) = 937 + l by omega] at a b
      omega
    have key := x_up0 (P := fun m i => ∀ h1 : XH, (∀ a, a ≠ x + 69 → a ≠ x + 70 → h1.1 a = h.1 a) → h1.2 = h.2 → ∃ h2, f_X12_awaitedBy_29 x m h1 (jI t) (jI p) (jI s) (jI e) (jI (swg_ (wd x h) t p (wd x h (290 + 81 * p + 4)) (wd x h (290 + 81 * p + 5)) (wd x h (290 + 81 * p + 6)) (wd x h (290 + 81 * p + 7)) (wd x h (290 + 81 * p + 8) + (z : Int)) (wd x h (290 + 81 * p + 3)) (fun pl => if l = 0 then ag_ (wd x h) p (wd x h 6 + e) pl else (e - wd x h (937 + l)) / 10) i)) v6 (jI (i : Int)) = some (jI (swg_ (wd x h) t p (wd x h (290 + 81 * p + 4)) (wd x h (290 + 81 * p + 5)) (wd x h (290 + 81 * p + 6)) (wd x h (290 + 81 * p + 7)) (wd x h (290 + 81 * p + 8) + (z : Int)) (wd x h (290 + 81 * p + 3)) (fun pl => if l = 0 then ag_ (wd x h) p (wd x h 6 + e) pl else (e - wd x h (937 + l)) / 10) (wd x h (290 + 81 * p + 2)).toNat), h2) ∧ (∀ a, a ≠ x + 69 → a ≠ x + 70 → h2.1 a = h.1 a) ∧ h2.2 = h.2) (wd x h (290 + 81 * p + 2)).toNat (by omega) (fun m h1 f1 f2 => by
      have F : Fr x h h1 := Fr.o2 f1 f2 (by decide) (by decide)
      have o2 : f_X12_of x h1 (jI p) 2 = some (jI (wd x h1 (290 + 81 * p + 2))) := of_2 (by omega)
      rw [F.ew] at o2
      refine ⟨h1, ?_, f1, f2⟩
      rw [f_X12_awaitedBy_29, o2, Option.bind_some, if_pos ((jI_le (by omega) (by omega) (by omega) (by omega)).mpr (by omega))]) (fun m i hi ih => by
      intro h1 f1 f2
      have F : Fr x h h1 := Fr.o2 f1 f2 (by decide) (by decide)
      have J := I.fr F
      have ew := F.ew
      obtain ⟨-, -, -, -, -, n6, n7, n8, n9, n10⟩ := nm_ (per := wd x h (290 + 81 * p + 6)) (i := (i : Int)) (n := wd x h (290 + 81 * p + 2)) b6 b7 (by omega)
      have ni := n10 (by omega)
      have o2 : f_X12_of x h1 (jI p) 2 = some (jI (wd x h1 (290 + 81 * p + 2))) := of_2 (by omega)
      have o8 : f_X12_of x h1 (jI p) 8 = some (jI (wd x h1 (290 + 81 * p + 8))) := of_8 (by omega)
      have e6 : h1.1 (x + 65) (6 : Int32).toNatClampNeg = jI (wd x h1 6) := wd_j _ _ _
      have ra := r_age J (p := p) (by rw [ew]; exact hp) (by rw [ew]; exact hq) (i := (i : Int)) (ck := wd x h 6 + e) (by rw [ew]; omega) (by rw [ew]; omega)
      rw [ew] at o2 o8 e6 ra
      have ab : 0 ≤ (if l = 0 then ag_ (wd x h) p (wd x h 6 + e) ((i : Int) / wd x h (290 + 81 * p + 6)) else (e - wd x h (937 + l)) / 10) ∧ (if l = 0 then ag_ (wd x h) p (wd x h 6 + e) ((i : Int) / wd x h (290 + 81 * p + 6)) else (e - wd x h (937 + l)) / 10) ≤ 120000 := by
        by_cases d : l = 0
        · rw [if_pos d]
          exact ra.2
        · rw [if_neg d]
          have := mk (by omega)
          omega
      have r1 := r_card1 J (p := p) (t := t) (by rw [ew]; exact hp) (by rw [ew]; exact hq) (by rw [ew]; exact ht) (i := (i : Int)) (gone := wd x h (290 + 81 * p + 8) + (z : Int)) (age := fun pl => if l = 0 then ag_ (wd x h) p (wd x h 6 + e) pl else (e - wd x h (937 + l)) / 10) (by rw [ew]; omega) (by omega) (by rw [ew]; exact ab)
      rw [ew] at r1
      obtain ⟨h3, h4, g1, g2, g3, g4, g5, g6, g7⟩ := r1
      obtain ⟨h2, k1, k2, k3⟩ := ih h4 (fun a q1 q2 => by rw [g6 a q1 q2, f1 a q1 q2]) (by rw [g7, f2])
      refine ⟨h2, ?_, k2, k3⟩
      have gz : jI (wd x h (290 + 81 * p + 8)) + f_J6_bitCount_0f7a4 h1 (jI (s : Int)) = jI (wd x h (290 + 81 * p + 8) + (z : Int)) := by
        rw [bc_e h1 (by omega), hz, jI_add]
      rw [f_X12_awaitedBy_29, o2, Option.bind_some, if_neg (fun q => absurd ((jI_le (by omega) (by omega) (by omega) (by omega)).mp q) (by omega))]
      by_cases d : s = 0
      · have l00 := s0 d
        rw [if_pos l00] at g1
        rw [if_pos (show jI (s : Int) = (0 : Int32) by rw [d]; rfl), if_pos (by decide), e6, jI_add, ra.1, Option.bind_some]
        unfold f_X12_awaitedBy_76
        rw [o8, Option.bind_some, gz, jI_s, g1, Option.bind_some, g3, Option.bind_some, jI_add]
        exact k1
      · have l00 := l0 (by omega)
        have mm := mk l00
        rw [if_neg (show ¬ l = 0 by omega)] at g1
        rw [if_neg (j_ne0 (by omega) (by omega) (by omega)), hv (by omega), jI_sub, show (10 : Int32) = jI 10 from rfl, jI_div (by omega) (by omega) (by omega) (by omega)]
        unfold f_X12_awaitedBy_76
        rw [o8, Option.bind_some, gz, jI_s, g1, Option.bind_some, g3, Option.bind_some, jI_add, ← hv (by omega)]
        exact k1)
    exact key h (fun _ _ _ => rfl) rfl
  unfold f_X12_awaitedBy f_X12_awaitedBy_24
  by_cases d : s = 0
  · rw [if_pos (show jI (s : Int) = (0 : Int32) by rw [d]; rfl)]
    exact sum 0 (fun q => absurd q (by omega))
  · have l00 := l0 (by omega)
    rw [if_neg (j_ne0 (by omega) (by omega) (by omega)), nlz_e h (by omega) (by omega), ← l6, show (969 : Int32) = jI 969 from rfl, jI_sub, if_pos (jI_b (by omega) (by omega) (by omega)), jI_nat (by omega) (by omega), show (969 - (32 - (lst_ (wd x h 4).toNat s : Int))).toNat = 937 + lst_ (wd x h 4).toNat s by omega, wd_j]
    exact sum _ (fun _ => rfl)
theorem r_a140 {gh : Nat} {x : Nat} {K : XK} {h h1 : XH} (I : Inv gh x K h) {p t : Nat} (hp : (p : Int) < wd x h 1) (hq : 0 < wd x h (290 + 81 * p + 3)) (ht : (t : Int) < wd x h 2) {e : Int} (he : 0 ≤ e ∧ e ≤ 99999) (hm : ∀ k : Nat, (k : Int) < wd x h 4 → wd x h (938 + k) ≤ e) {mo : Int} (hmo : 0 ≤ mo ∧ mo < 2147483648) {v5 : Int32} (f1 : ∀ a, a ≠ x + 69 → a ≠ x + 70 → h1.1 a = h.1 a) (f2 : h1.2 = h.2) :
    ∃ h2, f_X12_again_140 x x_FU h1 (jI t) (jI p) (jI mo) (jI e) v5 (jI (wd x h 4)) (jI 0) (jI (sT_ (wd x h) t p e 0)) (jI (sT_ (wd x h) t p e 0)) (jI 1) = some (if v5 = 0 then jI ((bq_ (sT_ (wd x h) t p e) mo (2 ^ (wd x h 4).toNat - 1)).1 : Int) else jI ((bq_ (sT_ (wd x h) t p e) mo (2 ^ (wd x h 4).toNat - 1)).2 - sT_ (wd x h) t p e 0), h2) ∧ (∀ a, a ≠ x + 69 → a ≠ x + 70 → h2.1 a = h.1 a) ∧ h2.2 = h.2 := by
  have w1 := I.w1
  have w4 := I.w4
  obtain ⟨-, -, -, -, -, -, p7, p8, -⟩ := I.wp hp
  have pb : 1 ≤ 2 ^ (wd x h 4).toNat ∧ 2 ^ (wd x h 4).toNat ≤ 64 := pw_b ⟨(wd x h 4).toNat, by omega⟩
  have pw : x_shl 1 (jI (wd x h 4)) = jI ((2 ^ (wd x h 4).toNat : Nat) : Int) := by
    have := pw_ ⟨(wd x h 4).toNat, by omega⟩
    rw [show ((⟨(wd x h 4).toNat, by omega⟩ : Fin 7).val : Int) = wd x h 4 by show ((wd x h 4).toNat : Int) = _; omega] at this
    exact this
  have fb : ∀ s, 0 ≤ sT_ (wd x h) t p e s ∧ sT_ (wd x h) t p e s ≤ 5200 := fun s => at_b p8
  have ab : ∀ h1 : XH, (∀ a, a ≠ x + 69 → a ≠ x + 70 → h1.1 a = h.1 a) → h1.2 = h.2 → ∀ s : Nat, s < 2 ^ (wd x h 4).toNat → ∃ h2, f_X12_awaitedBy x h1 (jI t) (jI p) (jI (s : Int)) (jI e) = some (jI (sT_ (wd x h) t p e s), h2) ∧ (∀ a, a ≠ x + 69 → a ≠ x + 70 → h2.1 a = h.1 a) ∧ h2.2 = h.2 := fun h1 f1 f2 s hs => by
    have F : Fr x h h1 := Fr.o2 f1 f2 (by decide) (by decide)
    have ew := F.ew
    have r := r_aBy (I.fr F) (p := p) (t := t) (e := e) (s := s) (by rw [ew]; exact hp) (by rw [ew]; exact hq) (by rw [ew]; exact ht) he (by rw [ew]; exact hm) (by rw [ew]; exact hs)
    rw [ew] at r
    obtain ⟨h2, r1, r2, r3⟩ := r
    exact ⟨h2, r1, fun a q1 q2 => by rw [r2 a q1 q2, f1 a q1 q2], by rw [r3, f2]⟩
  generalize hM : 2 ^ (wd x h 4).toNat = M at pb pw ab
  generalize hf : sT_ (wd x h) t p e = f at fb ab
  have key := x_up0 (P := fun m n => ∀ h1 : XH, (∀ a, a ≠ x + 69 → a ≠ x + 70 → h1.1 a = h.1 a) → h1.2 = h.2 → ∃ h2, f_X12_again_140 x m h1 (jI t) (jI p) (jI mo) (jI e) v5 (jI (wd x h 4)) (jI ((bq_ f mo n).1 : Int)) (jI (bq_ f mo n).2) (jI (f 0)) (jI ((n : Int) + 1)) = some (if v5 = 0 then jI ((bq_ f mo (M - 1)).1 : Int) else jI ((bq_ f mo (M - 1)).2 - f 0), h2) ∧ (∀ a, a ≠ x + 69 → a ≠ x + 70 → h2.1 a = h.1 a) ∧ h2.2 = h.2) (M - 1) (by omega) (fun m h1 f1 f2 => by
    refine ⟨h1, ?_, f1, f2⟩
    rw [f_X12_again_140, pw, if_pos ((jI_le (by omega) (by omega) (by omega) (by omega)).mpr (by omega)), jI_sub]) (fun m n hn ih h1 f1 f2 => by
    have bb := bq_b (f := f) (mo := mo) fb n
    have fn := fb (n + 1)
    have z1 : pc8_ (n + 1) ≤ 6 := pc_6 ⟨n + 1, by omega⟩
    have z2 : pc8_ (bq_ f mo n).1 ≤ 6 := pc_6 ⟨(bq_ f mo n).1, by omega⟩
    have n1 : jI ((n : Int) + 1) = jI ((n + 1 : Nat) : Int) := rfl
    rw [f_X12_again_140, pw, if_neg (fun q => absurd ((jI_le (by omega) (by omega) (by omega) (by omega)).mp q) (by omega)), n1, bc_e h1 (by omega)]
    unfold f_X12_again_211
    rw [jI_s]
    have e : bq_ f mo (n + 1) = if (pc8_ (n + 1) : Int) ≤ mo ∧ ((bq_ f mo n).2 < f (n + 1) ∨ f (n + 1) = (bq_ f mo n).2 ∧ pc8_ (n + 1) < pc8_ (bq_ f mo n).1) then (n + 1, f (n + 1)) else bq_ f mo n := rfl
    by_cases c1 : (pc8_ (n + 1) : Int) ≤ mo
    · obtain ⟨h2, s1, s2, s3⟩ := ab h1 f1 f2 (n + 1) (by omega)
      rw [if_pos ((jI_le (by omega) (by omega) (by omega) (by omega)).mpr (by omega)), s1, Option.bind_some, bc_e h2 (by omega), bc_e h2 (by omega)]
      obtain ⟨h3, k1, k2, k3⟩ := ih h2 s2 s3
      refine ⟨h3, ?_, k2, k3⟩
      rw [← k1]
      have l1 : jI (f (n + 1)) < jI (bq_ f mo n).2 ↔ f (n + 1) < (bq_ f mo n).2 := jI_lt (by omega) (by omega) (by omega) (by omega)
      have l2 : jI (f (n + 1)) = jI (bq_ f mo n).2 ↔ f (n + 1) = (bq_ f mo n).2 := jI_eq (by omega) (by omega) (by omega) (by omega)
      have l3 : jI (pc8_ (n + 1) : Int) < jI (pc8_ (bq_ f mo n).1 : Int) ↔ pc8_ (n + 1) < pc8_ (bq_ f mo n).1 := by
        rw [jI_lt (by omega) (by omega) (by omega) (by omega)]
        omega
      simp only [l1, l2, l3]
      rw [show ((n + 1 : Nat) : Int) + 1 = ((n + 1 + 1 : Nat) : Int) by omega]
      by_cases d1 : f (n + 1) < (bq_ f mo n).2
      · rw [if_pos d1, if_pos d1, e, if_neg (fun q => by omega)]
      · rw [if_neg d1, if_neg d1]
        by_cases d2 : f (n + 1) = (bq_ f mo n).2
        · rw [if_pos d2, if_pos d2]
          by_cases d3 : pc8_ (n + 1) < pc8_ (bq_ f mo n).1
          · rw [if_pos d3, if_pos d3, e, if_pos ⟨c1, Or.inr ⟨d2, d3⟩⟩]
          · rw [if_neg d3, if_neg d3, e, if_neg (fun q => by omega)]
        · rw [if_neg d2, if_neg d2, e, if_pos ⟨c1, Or.inl (by omega)⟩]
    · rw [if_neg (fun q => absurd ((jI_le (by omega) (by omega) (by omega) (by omega)).mp q) (by omega))]
      obtain ⟨h3, k1, k2, k3⟩ := ih h1 f1 f2
      refine ⟨h3, ?_, k2, k3⟩
      rw [← k1, e, if_neg (fun q => c1 q.1)]
      rw [show ((n + 1 : Nat) : Int) + 1 = ((n + 1 + 1 : Nat) : Int) by omega])
  exact key h1 f1 f2
