/-! ===== change: the best pair ===== -/
theorem c_gain {gh : Nat} {x : Nat} {K : XK} {h h2 : XH} (I : Inv gh x K h) {t : Nat} {pb : Nat → Int32} (f10 : h2.1 (x + 10) = h.1 (x + 10)) (tb : TB9 x h2 (fun c q d => if bi_ (pb q) d = true then SF_ (wd x h) t c q d (wd x h 1).toNat else 0)) (hb : ∀ c q : Nat, c < 52 → q < 3 → bi_ (pb q) (wd x h (8 + 3 * c + q)).toNat = true) {a b : Nat} (ha : a < 52) (hbb : b < 52) :
    f_X0_gainAs x h2 (jI a) (jI b) = some (jI (GF_ (wd x h) t a (du_ (wd x h) b) - GF_ (wd x h) t a (du_ (wd x h) a))) := by
  have w1 := I.w1
  have per : ∀ p : Nat, (p : Int) < wd x h 1 → 1 ≤ wd x h (290 + 81 * p + 6) ∧ wd x h (290 + 81 * p + 6) ≤ 3 := fun p hp => ⟨(I.wp hp).2.2.2.2.2.2.2.2.2.2.1, (I.wp hp).2.2.2.2.2.2.2.2.2.2.2.1⟩
  rw [← SG_ (t := t) (c := (a : Int)) (f := du_ (wd x h) b) per, ← SG_ (t := t) (c := (a : Int)) (f := du_ (wd x h) a) per]
  have du : ∀ c r : Nat, c < 52 → r < 3 → h2.1 (x + 10) (3 * c + r) = jI (du_ (wd x h) c r) ∧ 0 ≤ du_ (wd x h) c r ∧ du_ (wd x h) c r ≤ 9 ∧ bi_ (pb r) (du_ (wd x h) c r).toNat = true := fun c r hc hr => by
    have d1 := I.2.1.2.1 (3 * c + r) (by omega)
    have d2 := I.1.2.1 (3 * c + r) (by omega)
    have d3 := hb c r hc hr
    unfold du_
    rw [Int.toNat_natCast, Int.toNat_natCast, f10]
    rw [← Nat.add_assoc] at d1 d2
    exact ⟨d1, d2.1, d2.2, d3⟩
  have cell : ∀ c r : Nat, c < 52 → r < 3 → h2.1 (x + 62) ((3 * a + r) * 10 + (du_ (wd x h) c r).toNat) = jI (SF_ (wd x h) t a r (du_ (wd x h) c r) (wd x h 1).toNat) := fun c r hc hr => by
    obtain ⟨d1, d2, d3, d4⟩ := du c r hc hr
    have k := tb a r (du_ (wd x h) c r).toNat ha hr (by omega)
    dsimp only at k
    rw [if_pos d4, show (((du_ (wd x h) c r).toNat : Nat) : Int) = du_ (wd x h) c r by omega] at k
    exact k
  unfold f_X0_gainAs
  have key := x_up0 (P := fun m n => f_X0_gainAs_5 x h2 m (jI a) (jI b) (jI (sm_ n (fun r => SF_ (wd x h) t a r (du_ (wd x h) b r) (wd x h 1).toNat - SF_ (wd x h) t a r (du_ (wd x h) a r) (wd x h 1).toNat))) (jI (n : Int)) = some (jI (sm_ 3 (fun r => SF_ (wd x h) t a r (du_ (wd x h) b r) (wd x h 1).toNat - SF_ (wd x h) t a r (du_ (wd x h) a r) (wd x h 1).toNat)))) 3 (by omega) (fun m => by
    rw [f_X0_gainAs_5, if_pos (by decide)]) (fun m n hn ih => by
    obtain ⟨d1, d2, d3, d4⟩ := du b n hbb hn
    obtain ⟨e1, e2, e3, e4⟩ := du a n ha hn
    have i1 : jI (b : Int) * 3 + jI (n : Int) = jI ((3 * b + n : Nat) : Int) := by
      rw [show (3 : Int32) = jI 3 from rfl, jI_mul, jI_add]
      congr 1
      omega
    have i2 : jI (a : Int) * 3 + jI (n : Int) = jI ((3 * a + n : Nat) : Int) := by
      rw [show (3 : Int32) = jI 3 from rfl, jI_mul, jI_add]
      congr 1
      omega
    have i3 : ∀ d : Int, jI ((3 * a + n : Nat) : Int) * 10 + jI d = jI (((3 * a + n) * 10 : Nat) + d) := fun d => by
      rw [show (10 : Int32) = jI 10 from rfl, jI_mul, jI_add]
      congr 1
    rw [f_X0_gainAs_5, if_neg (show ¬ (3 : Int32) ≤ jI (n : Int) from fun q => absurd ((jI_le (a := 3) (by omega) (by omega) (by omega) (by omega)).mp q) (by omega)), i1, i2, if_pos (jI_b (by omega) (by omega) (by omega)), nat_ (by omega), nat_ (by omega), d1, e1, i3, i3, if_pos (jI_b (by omega) (by omega) (by omega)), if_pos (jI_b (by omega) (by omega) (by omega)), if_pos (jI_b (by omega) (by omega) (by omega)), xl_, jI_nat (by omega) (by omega), jI_nat (by omega) (by omega), show (((3 * a + n) * 10 : Nat) + du_ (wd x h) b n).toNat = (3 * a + n) * 10 + (du_ (wd x h) b n).toNat by omega, show (((3 * a + n) * 10 : Nat) + du_ (wd x h) a n).toNat = (3 * a + n) * 10 + (du_ (wd x h) a n).toNat by omega, cell b n hbb hn, cell a n ha hn, jI_sub, jI_add, jI_s]
    exact ih)
  refine key.trans ?_
  congr 2
  show 0 + (SF_ (wd x h) t a ((0 : Nat) : Int) (du_ (wd x h) b ((0 : Nat) : Int)) (wd x h 1).toNat - SF_ (wd x h) t a ((0 : Nat) : Int) (du_ (wd x h) a ((0 : Nat) : Int)) (wd x h 1).toNat) + (SF_ (wd x h) t a ((1 : Nat) : Int) (du_ (wd x h) b ((1 : Nat) : Int)) (wd x h 1).toNat - SF_ (wd x h) t a ((1 : Nat) : Int) (du_ (wd x h) a ((1 : Nat) : Int)) (wd x h 1).toNat) + (SF_ (wd x h) t a ((2 : Nat) : Int) (du_ (wd x h) b ((2 : Nat) : Int)) (wd x h 1).toNat - SF_ (wd x h) t a ((2 : Nat) : Int) (du_ (wd x h) a ((2 : Nat) : Int)) (wd x h 1).toNat) = _
  rw [show ((0 : Nat) : Int) = 0 from rfl, show ((1 : Nat) : Int) = 1 from rfl, show ((2 : Nat) : Int) = 2 from rfl]
  omega
theorem c_bp {gh : Nat} {x : Nat} {K : XK} {h : XH} (T : x_T x K h) (I : Inv gh x K h) {t : Nat} (ht : (t : Int) < wd x h 2) : ∃ h2, f_X11_change K x h (jI t) = some (.inr (jI (fo_ (gn_ (wd x h) t) 52).2), h2) ∧ (∀ a, a ≠ x + 44 → a ≠ x + 45 → a ≠ x + 62 → a ≠ x + 63 → h2.1 a = h.1 a) ∧ h2.2 = h.2 := by
  have w1 := I.w1
  have w2 := I.w2
  obtain ⟨r, hr, ct⟩ := I.law ht
  have hx := I.wl ht
  have k62 : (K (x + 62)).2 = 1560 := by rw [tk_ T (j := 62) (by omega) rfl]
  have k63 : (K (x + 63)).2 = 3 := by rw [tk_ T (j := 63) (by omega) rfl]
  obtain ⟨M, hM⟩ : ∃ M : Nat, M = 1560 := ⟨_, rfl⟩
  obtain ⟨N, hN⟩ : ∃ N : Nat, N = 3 := ⟨_, rfl⟩
  rw [← hM] at k62
  rw [← hN] at k63
  have l0 := fill_ (h := h) (v0 := x + 62) (v := 0) k62 (by omega)
  have l1 := fill_ (h := wr_ (x + 62) 0 (fun _ => 0) M h) (v0 := x + 63) (v := 0) k63 (by omega)
  have z1 : ∀ k, k < M → (wr_ (x + 63) 0 (fun _ => 0) N (wr_ (x + 62) 0 (fun _ => 0) M h)).1 (x + 62) k = jI 0 := fun k hk => by
    rw [wr_n (by omega)]
    have e : (wr_ (x + 62) 0 (fun _ => 0) M h).1 (x + 62) (0 + k) = jI 0 := wr_i hk
    rw [Nat.zero_add] at e
    exact e
  have z2 : ∀ k, k < N → (wr_ (x + 63) 0 (fun _ => 0) N (wr_ (x + 62) 0 (fun _ => 0) M h)).1 (x + 63) k = jI 0 := fun k hk => by
    have e : (wr_ (x + 63) 0 (fun _ => 0) N (wr_ (x + 62) 0 (fun _ => 0) M h)).1 (x + 63) (0 + k) = jI 0 := wr_i hk
    rw [Nat.zero_add] at e
    exact e
  have g1 : ∀ a, a ≠ x + 44 → a ≠ x + 45 → a ≠ x + 62 → a ≠ x + 63 → (wr_ (x + 63) 0 (fun _ => 0) N (wr_ (x + 62) 0 (fun _ => 0) M h)).1 a = h.1 a := fun a _ _ n3 n4 => by rw [wr_n n4, wr_n n3]
  have g2 : (wr_ (x + 63) 0 (fun _ => 0) N (wr_ (x + 62) 0 (fun _ => 0) M h)).2 = h.2 := by rw [wr_2, wr_2]
  generalize hH : wr_ (x + 63) 0 (fun _ => 0) N (wr_ (x + 62) 0 (fun _ => 0) M h) = H at z1 z2 g1 g2 l1
  obtain ⟨h3, p1, p2, p3, p4, p5⟩ := c_pres I (v1 := some r) g1 g2 (fun q hq => z2 q (by omega)) (fun k hk => z1 k (by omega))
  obtain ⟨h4, s1, s2, s3, s4⟩ := c_60 I ct hx (pb := fun q => h3.1 (x + 63) q) p2 p3 (fun _ _ => rfl) (fun c q d hc hq hd => p4 _ (by omega))
  have su : f_X0_sumUp K x h (some r) = some h4 := by
    unfold f_X0_sumUp
    rw [show (0 : Int32) = jI 0 from rfl, l0, Option.bind_some, l1, Option.bind_some, p1]
    exact s1
  have f10 : h4.1 (x + 10) = h.1 (x + 10) := s2 _ (by omega) (by omega) (by omega) (by omega)
  have gb := gn_b (w := wd x h) (t := t) w1.2 (fun p hp => (I.wp hp).2.2.2.2.2.2.2.1)
  have ga : ∀ a b : Nat, a < 52 → b < 52 → f_X0_gainAs x h4 (jI (a : Int)) (jI (b : Int)) = some (jI (GF_ (wd x h) t a (du_ (wd x h) b) - GF_ (wd x h) t a (du_ (wd x h) a))) := fun a b ha hb => c_gain I f10 s4 (fun c q hc hq => p5 c q hc hq) ha hb
  have l25 : ∀ (k12 : XH → Int32 → Int32 → Int32 → Option (Int32 × XH)) (a : Nat) (S : Int × Int), a < 52 → 0 ≤ S.1 ∧ S.1 ≤ 200000 ∧ -1 ≤ S.2 ∧ S.2 ≤ 2703 → f_X0_bestPair_25 k12 K x x_FU h4 (jI S.1) (jI S.2) (jI (a : Int)) (jI ((a : Int) + 1)) = k12 h4 (jI (fi_ (gn_ (wd x h) t) a S (51 - a)).1) (jI (fi_ (gn_ (wd x h) t) a S (51 - a)).2) (jI (a : Int) + 1) := fun k12 a S ha hS => by
    refine x_up0 (P := fun m n => f_X0_bestPair_25 k12 K x m h4 (jI (fi_ (gn_ (wd x h) t) a S n).1) (jI (fi_ (gn_ (wd x h) t) a S n).2) (jI (a : Int)) (jI ((a + 1 + n : Nat) : Int)) = k12 h4 (jI (fi_ (gn_ (wd x h) t) a S (51 - a)).1) (jI (fi_ (gn_ (wd x h) t) a S (51 - a)).2) (jI (a : Int) + 1)) (51 - a) (by omega) (fun m => by
      rw [f_X0_bestPair_25, if_pos (show (52 : Int32) ≤ jI ((a + 1 + (51 - a) : Nat) : Int) from (jI_le (a := 52) (by omega) (by omega) (by omega) (by omega)).mpr (by omega))]) (fun m n hn ih => by
      have fb := fi_b gb ha hS n (by omega)
      have gg := gb a (a + 1 + n) ha (by omega)
      rw [f_X0_bestPair_25, if_neg (show ¬ (52 : Int32) ≤ jI ((a + 1 + n : Nat) : Int) from fun q => absurd ((jI_le (a := 52) (by omega) (by omega) (by omega) (by omega)).mp q) (by omega)), ga a (a + 1 + n) ha (by omega), Option.bind_some, ga (a + 1 + n) a (by omega) ha, Option.bind_some, jI_add, show GF_ (wd x h) t a (du_ (wd x h) (a + 1 + n : Nat)) - GF_ (wd x h) t a (du_ (wd x h) a) + (GF_ (wd x h) t (a + 1 + n : Nat) (du_ (wd x h) a) - GF_ (wd x h) t (a + 1 + n : Nat) (du_ (wd x h) (a + 1 + n : Nat))) = gn_ (wd x h) t a (a + 1 + n) from rfl, jI_s]
      have e : fi_ (gn_ (wd x h) t) a S (n + 1) = if (fi_ (gn_ (wd x h) t) a S n).1 < gn_ (wd x h) t a (a + 1 + n) then (gn_ (wd x h) t a (a + 1 + n), 52 * (a : Int) + (a + 1 + n : Nat)) else fi_ (gn_ (wd x h) t) a S n := rfl
      rw [e] at ih
      by_cases c : (fi_ (gn_ (wd x h) t) a S n).1 < gn_ (wd x h) t a (a + 1 + n)
      · rw [if_pos c] at ih
        rw [if_neg (fun q => absurd ((jI_le (by omega) (by omega) (by omega) (by omega)).mp q) (by omega)), if_neg (fun q => absurd ((jI_le (by omega) (by omega) (by omega) (by omega)).mp q) (by omega)), show (52 : Int32) = jI 52 from rfl, jI_mul, jI_add]
        exact ih
      · rw [if_neg c] at ih
        rw [if_pos ((jI_le (by omega) (by omega) (by omega) (by omega)).mpr (by omega)), if_pos ((jI_le (by omega) (by omega) (by omega) (by omega)).mpr (by omega))]
        exact ih)
  have l12 : f_X0_bestPair_12 K x x_FU h4 0 (-1) 0 = some (jI (fo_ (gn_ (wd x h) t) 52).2, h4) := by
    refine x_up0 (P := fun m n => f_X0_bestPair_12 K x m h4 (jI (fo_ (gn_ (wd x h) t) n).1) (jI (fo_ (gn_ (wd x h) t) n).2) (jI (n : Int)) = some (jI (fo_ (gn_ (wd x h) t) 52).2, h4)) 52 (by omega) (fun m => by
      rw [f_X0_bestPair_12, if_pos (by decide)]) (fun m n hn ih => by
      have fb := fo_b gb n (by omega)
      rw [f_X0_bestPair_12, if_neg (show ¬ (52 : Int32) ≤ jI (n : Int) from fun q => absurd ((jI_le (a := 52) (by omega) (by omega) (by omega) (by omega)).mp q) (by omega)), show (1 : Int32) = jI 1 from rfl, jI_add, l25 _ n _ hn fb, jI_s]
      exact ih)
  refine ⟨h4, ?_, s2, s3⟩
  unfold f_X11_change f_X0_bestPair
  rw [ckL_y I ⟨by omega, ht⟩, xb_v, if_pos (jI_b (by omega) (by omega) (by omega)), nat_ (by omega), hr, su, Option.bind_some, l12, Option.bind_some]
/-! the reference -/
theorem r_hb20 {gh : Nat} {x : Nat} {K : XK} {h : XH} (I : Rv gh x K h) {k6 : XH → Int32 → Int32 → Int32 → Int32 → Int32 → Option (Int32 × XH)} {p t : Nat} (hp : (p : Int) < wd x h 1) (ht : (t : Int) < wd x h 2) {a b s : Int} (ha : 0 ≤ a ∧ a < 52) (hb : 0 ≤ b ∧ b < 52) :
    ∃ h2, f_X12_heldBy_20 k6 x x_FU h (jI t) (jI a) (jI b) (jI s) (jI p) (jI 0) = k6 h2 (jI t) (jI a) (jI b) (jI (s + (if 0 < wd x h (290 + 81 * p + 3) then sm_ (wd x h (290 + 81 * p + 2)).toNat (fun i => if cd_ (wd x h) p i = a ∨ cd_ (wd x h) p i = b then hn_ (wd x h) t p (wd x h 6) i else 0) else 0))) (jI p + 1) ∧ (∀ a, a ≠ x + 69 → a ≠ x + 70 → h2.1 a = h.1 a) ∧ h2.2 = h.2 := by
  have w1 := I.w1
  obtain ⟨-, -, -, -, -, -, p7, p8, -⟩ := I.wp hp
  by_cases cq : 0 < wd x h (290 + 81 * p + 3)
  · rw [if_pos cq]
    have key := x_up0 (P := fun m n => ∀ h1 : XH, (∀ a, a ≠ x + 69 → a ≠ x + 70 → h1.1 a = h.1 a) → h1.2 = h.2 → ∃ h2, f_X12_heldBy_20 k6 x m h1 (jI t) (jI a) (jI b) (jI (s + sm_ n (fun i => if cd_ (wd x h) p i = a ∨ cd_ (wd x h) p i = b then hn_ (wd x h) t p (wd x h 6) i else 0))) (jI p) (jI (n : Int)) = k6 h2 (jI t) (jI a) (jI b) (jI (s + sm_ (wd x h (290 + 81 * p + 2)).toNat (fun i => if cd_ (wd x h) p i = a ∨ cd_ (wd x h) p i = b then hn_ (wd x h) t p (wd x h 6) i else 0))) (jI p + 1) ∧ (∀ a, a ≠ x + 69 → a ≠ x + 70 → h2.1 a = h.1 a) ∧ h2.2 = h.2) (wd x h (290 + 81 * p + 2)).toNat (by omega) (fun m h1 f1 f2 => by
      have F : Fr x h h1 := Fr.o2 f1 f2 (by decide) (by decide)
      have o2 : f_X12_of x h1 (jI p) 2 = some (jI (wd x h1 (290 + 81 * p + 2))) := of_2 (by omega)
      rw [F.ew] at o2
      refine ⟨h1, ?_, f1, f2⟩
      rw [f_X12_heldBy_20, o2, Option.bind_some, if_pos ((jI_le (by omega) (by omega) (by omega) (by omega)).mpr (by omega))]
      rfl) (fun m n hn ih h1 f1 f2 => by
      have F : Fr x h h1 := Fr.o2 f1 f2 (by decide) (by decide)
      have ew := F.ew
      have J := I.fr F
      have o2 : f_X12_of x h1 (jI p) 2 = some (jI (wd x h1 (290 + 81 * p + 2))) := of_2 (by omega)
      have ip := sr_isp J (p := p) (by rw [ew]; exact hp)
      have cc := sr_card J (p := p) (i := (n : Int)) (by rw [ew]; exact hp) (by omega)
      have rn := sr_now J (p := p) (t := t) (i := (n : Int)) (by rw [ew]; exact hp) (by rw [ew]; exact cq) (by rw [ew]; exact ht) (by rw [ew]; omega)
      rw [ew] at o2 ip cc rn
      rw [if_pos cq] at ip
      obtain ⟨h3, k1, k2, k3⟩ := rn
      have cb := cd_b (wd x h) p n
      have e1 : jI (cd_ (wd x h) p n) = jI a ↔ cd_ (wd x h) p n = a := jI_eq (by omega) (by omega) (by omega) (by omega)
      have e2 : jI (cd_ (wd x h) p n) = jI b ↔ cd_ (wd x h) p n = b := jI_eq (by omega) (by omega) (by omega) (by omega)
      have es : sm_ (n + 1) (fun i => if cd_ (wd x h) p i = a ∨ cd_ (wd x h) p i = b then hn_ (wd x h) t p (wd x h 6) i else 0) = sm_ n (fun i => if cd_ (wd x h) p i = a ∨ cd_ (wd x h) p i = b then hn_ (wd x h) t p (wd x h 6) i else 0) + (if cd_ (wd x h) p n = a ∨ cd_ (wd x h) p n = b then hn_ (wd x h) t p (wd x h 6) n else 0) := rfl
      rw [f_X12_heldBy_20, o2, Option.bind_some, if_neg (fun q => absurd ((jI_le (by omega) (by omega) (by omega) (by omega)).mp q) (by omega)), ip, Option.bind_some, if_neg (show ¬ jI 1 = (0 : Int32) by decide), cc, Option.bind_some, Option.bind_some]
      unfold f_X12_heldBy_65 f_X12_heldBy_79
      rw [k1, Option.bind_some, jI_s]
      by_cases d : cd_ (wd x h) p n = a ∨ cd_ (wd x h) p n = b
      · have k := ih h3 (fun a q1 q2 => by rw [k2 a q1 q2, f1 a q1 q2]) (by rw [k3, f2])
        rw [es, if_pos d, ← Int.add_assoc] at k
        by_cases d1 : cd_ (wd x h) p n = a
        · rw [if_pos (e1.mpr d1), jI_add]
          exact k
        · rw [if_neg (fun q => d1 (e1.mp q)), if_pos (e2.mpr (d.elim (fun z => absurd z d1) id)), jI_add]
          exact k
      · have k := ih h1 f1 f2
        rw [es, if_neg d, Int.add_zero] at k
        rw [if_neg (fun q => d (Or.inl (e1.mp q))), if_neg (fun q => d (Or.inr (e2.mp q)))]
        exact k)
    have k := key h (fun _ _ _ => rfl) rfl
    rw [sm_0, Int.add_zero] at k
    exact k
  · have o2 : f_X12_of x h (jI p) 2 = some (jI (wd x h (290 + 81 * p + 2))) := of_2 (by omega)
    have ip := sr_isp I hp
    rw [if_neg cq] at ip
    refine ⟨h, ?_, fun _ _ _ => rfl, rfl⟩
    rw [if_neg cq, Int.add_zero]
    show f_X12_heldBy_20 k6 x (99999 + 1) h (jI t) (jI a) (jI b) (jI s) (jI p) (jI 0) = _
    rw [f_X12_heldBy_20, o2, Option.bind_some, if_neg (fun q => absurd ((jI_le (by omega) (by omega) (by omega) (by omega)).mp q) (by omega)), ip, Option.bind_some, if_pos (show jI 0 = (0 : Int32) from rfl)]
    rfl
theorem r_hb {gh : Nat} {x : Nat} {K : XK} {h : XH} (I : Rv gh x K h) {t : Nat} (ht : (t : Int) < wd x h 2) {a b : Int} (ha : 0 ≤ a ∧ a < 52) (hb : 0 ≤ b ∧ b < 52) :
    ∃ h2, f_X12_heldBy x h (jI t) (jI a) (jI b) = some (jI (HB_ (wd x h) t a b), h2) ∧ (∀ a, a ≠ x + 69 → a ≠ x + 70 → h2.1 a = h.1 a) ∧ h2.2 = h.2 := by
  have w1 := I.w1
  unfold f_X12_heldBy HB_
  have key := x_up0 (P := fun m n => ∀ h1 : XH, (∀ a, a ≠ x + 69 → a ≠ x + 70 → h1.1 a = h.1 a) → h1.2 = h.2 → ∃ h2, f_X12_heldBy_6 x m h1 (jI t) (jI a) (jI b) (jI (sm_ n (fun p => if 0 < wd x h (290 + 81 * p + 3) then sm_ (wd x h (290 + 81 * p + 2)).toNat (fun i => if cd_ (wd x h) p i = a ∨ cd_ (wd x h) p i = b then hn_ (wd x h) t p (wd x h 6) i else 0) else 0))) (jI (n : Int)) = some (jI (sm_ (wd x h 1).toNat (fun p => if 0 < wd x h (290 + 81 * p + 3) then sm_ (wd x h (290 + 81 * p + 2)).toNat (fun i => if cd_ (wd x h) p i = a ∨ cd_ (wd x h) p i = b then hn_ (wd x h) t p (wd x h 6) i else 0) else 0)), h2) ∧ (∀ a, a ≠ x + 69 → a ≠ x + 70 → h2.1 a = h.1 a) ∧ h2.2 = h.2) (wd x h 1).toNat (by omega) (fun m h1 f1 f2 => by
    have F : Fr x h h1 := Fr.o2 f1 f2 (by decide) (by decide)
    refine ⟨h1, ?_, f1, f2⟩
    rw [f_X12_heldBy_6, if_pos (by decide), show (1 : Int32).toNatClampNeg = 1 from rfl, wd_j, F.ew, if_pos ((jI_le (by omega) (by omega) (by omega) (by omega)).mpr (by omega))]) (fun m n hn ih h1 f1 f2 => by
    have F : Fr x h h1 := Fr.o2 f1 f2 (by decide) (by decide)
    have ew := F.ew
    have r := r_hb20 (I.fr F) (k6 := f_X12_heldBy_6 x m) (p := n) (t := t) (a := a) (b := b) (s := sm_ n (fun p => if 0 < wd x h (290 + 81 * p + 3) then sm_ (wd x h (290 + 81 * p + 2)).toNat (fun i => if cd_ (wd x h) p i = a ∨ cd_ (wd x h) p i = b then hn_ (wd x h) t p (wd x h 6) i else 0) else 0)) (by rw [ew]; omega) (by rw [ew]; exact ht) ha hb
    rw [ew] at r
    obtain ⟨h2, r1, r2, r3⟩ := r
    obtain ⟨h3, k1, k2, k3⟩ := ih h2 (fun a q1 q2 => by rw [r2 a q1 q2, f1 a q1 q2]) (by rw [r3, f2])
    refine ⟨h3, ?_, k2, k3⟩
    rw [f_X12_heldBy_6, if_pos (by decide), show (1 : Int32).toNatClampNeg = 1 from rfl, wd_j, ew, if_neg (fun q => absurd ((jI_le (by omega) (by omega) (by omega) (by omega)).mp q) (by omega)), show (0 : Int32) = jI 0 from rfl, r1, jI_s]
    exact k1)
  exact key h (fun _ _ _ => rfl) rfl
def e3_ (w : Nat → Int) (a b n : Nat) : Nat → Int := fun k => if 8 + 3 * a ≤ k ∧ k < 8 + 3 * a + n then w (k - 3 * a + 3 * b) else if 8 + 3 * b ≤ k ∧ k < 8 + 3 * b + n then w (k - 3 * b + 3 * a) else w k
theorem r_exc {x : Nat} {h : XH} (hD : WD (wd x h)) {a b : Nat} (ha : a < 52) (hb : b < 52) (c : a ≠ b) : ∃ h2, f_X12_exchanges x h (jI a) (jI b) = some h2 ∧ wd x h2 = ex_ (wd x h) a b ∧ (∀ q, q ≠ x + 65 → h2.1 q = h.1 q) ∧ h2.2 = h.2 := by
  unfold f_X12_exchanges
  have key := x_up0 (P := fun m n => ∀ h1 : XH, wd x h1 = e3_ (wd x h) a b n → (∀ q, q ≠ x + 65 → h1.1 q = h.1 q) → h1.2 = h.2 → ∃ h2, f_X12_exchanges_2 x m h1 (jI a) (jI b) (jI (n : Int)) = some h2 ∧ wd x h2 = ex_ (wd x h) a b ∧ (∀ q, q ≠ x + 65 → h2.1 q = h.1 q) ∧ h2.2 = h.2) 3 (by omega) (fun m h1 e f1 f2 => by
    refine ⟨h1, ?_, ?_, f1, f2⟩
    · rw [f_X12_exchanges_2, if_pos (by decide)]
    · rw [e]
      funext k
      unfold e3_ ex_
      rw [show 8 + 3 * a + 3 = 11 + 3 * a by omega, show 8 + 3 * b + 3 = 11 + 3 * b by omega]) (fun m n hn ih h1 e f1 f2 => by
    have da := hD (3 * a + n) (by omega)
    have db := hD (3 * b + n) (by omega)
    rw [← Nat.add_assoc] at da db
    have d1 := r_dul (x := x) (h := h1) (c := (a : Int)) (r := (n : Int)) (by omega) (by omega)
    have d2 := r_dul (x := x) (h := h1) (c := (b : Int)) (r := (n : Int)) (by omega) (by omega)
    have ea : du_ (wd x h1) a n = wd x h (8 + 3 * a + n) := by
      unfold du_
      rw [Int.toNat_natCast, Int.toNat_natCast, e]
      unfold e3_
      rw [if_neg (by omega), if_neg (by omega)]
    have eb : du_ (wd x h1) b n = wd x h (8 + 3 * b + n) := by
      unfold du_
      rw [Int.toNat_natCast, Int.toNat_natCast, e]
      unfold e3_
      rw [if_neg (by omega), if_neg (by omega)]
    rw [ea] at d1
    rw [eb] at d2
    have i1 : (8 : Int32) + 3 * jI (a : Int) + jI (n : Int) = jI ((8 + 3 * a + n : Nat) : Int) := by
      rw [show (8 : Int32) = jI 8 from rfl, show (3 : Int32) = jI 3 from rfl, jI_mul, jI_add, jI_add]
      rfl
    have i2 : (8 : Int32) + 3 * jI (b : Int) + jI (n : Int) = jI ((8 + 3 * b + n : Nat) : Int) := by
      rw [show (8 : Int32) = jI 8 from rfl, show (3 : Int32) = jI 3 from rfl, jI_mul, jI_add, jI_add]
      rfl
    rw [f_X12_exchanges_2, if_neg (show ¬ (3 : Int32) ≤ jI (n : Int) from fun q => absurd ((jI_le (a := 3) (by omega) (by omega) (by omega) (by omega)).mp q) (by omega)), d1, Option.bind_some, d2, Option.bind_some, i1, i2, if_pos (jI_b (by omega) (by omega) (by omega)), xl_, if_pos (jI_b (by omega) (by omega) (by omega)), xl_, nat_ (by omega), nat_ (by omega), jI_s]
    refine ih _ ?_ (fun q hq => by rw [gi_n hq, gi_n hq]; exact f1 q hq) f2
    funext k
    rw [wd_s k (by omega) (by omega), wd_s k (by omega) (by omega), e]
    unfold e3_
    by_cases k1 : k = 8 + 3 * b + n
    · rw [if_pos k1, if_neg (by omega), if_pos (by omega), show k - 3 * b + 3 * a = 8 + 3 * a + n by omega]
    · rw [if_neg k1]
      by_cases k2 : k = 8 + 3 * a + n
      · rw [if_pos k2, if_pos (by omega), show k - 3 * a + 3 * b = 8 + 3 * b + n by omega]
      · rw [if_neg k2]
        by_cases k3 : 8 + 3 * a ≤ k ∧ k < 8 + 3 * a + n
        · rw [if_pos k3, if_pos (by omega)]
        · rw [if_neg k3]
          by_cases k4 : 8 + 3 * b ≤ k ∧ k < 8 + 3 * b + n
          · rw [if_pos k4, if_neg (by omega), if_pos (by omega)]
          · rw [if_neg k4, if_neg (by omega), if_neg (by omega)])
  exact key h (by
    funext k
    unfold e3_
    rw [if_neg (by omega), if_neg (by omega)]) (fun _ _ => rfl) rfl
theorem Inv.ex {gh : Nat} {x : Nat} {K : XK} {h : XH} (I : Inv gh x K h) {a b : Nat} (ha : a < 52) (hb : b < 52) : ∃ h0, Inv gh x K h0 ∧ wd x h0 = ex_ (wd x h) a b := by
  have w4 := I.w4
  have w5 := I.w5
  have w6 := I.w6
  have rg : ∀ k, -2147483648 ≤ ex_ (wd x h) a b k ∧ ex_ (wd x h) a b k < 2147483648 := fun k => by
    have r : ∀ k, -2147483648 ≤ wd x h k ∧ wd x h k < 2147483648 := fun k => ⟨Int32.le_toInt _, Int32.toInt_lt _⟩
    unfold ex_
    split
    · exact r _
    · split
      · exact r _
      · exact r _
  have hw : wd x ((fun q k => if q = x + 65 then jI (ex_ (wd x h) a b k) else if q = x + 10 then jI (ex_ (wd x h) a b (8 + k)) else h.1 q k, h.2) : XH) = ex_ (wd x h) a b := by
    funext k
    show (if x + 65 = x + 65 then jI (ex_ (wd x h) a b k) else _).toInt = _
    rw [if_pos rfl, jI_toInt (rg k).1 (rg k).2]
  have hr : ∀ q, q ≠ x + 65 → q ≠ x + 10 → ((fun q k => if q = x + 65 then jI (ex_ (wd x h) a b k) else if q = x + 10 then jI (ex_ (wd x h) a b (8 + k)) else h.1 q k, h.2) : XH).1 q = h.1 q := fun q n1 n2 => by
    funext k
    show (if q = x + 65 then _ else if q = x + 10 then _ else h.1 q k) = _
    rw [if_neg n1, if_neg n2]
  have h10 : ∀ k, ((fun q k => if q = x + 65 then jI (ex_ (wd x h) a b k) else if q = x + 10 then jI (ex_ (wd x h) a b (8 + k)) else h.1 q k, h.2) : XH).1 (x + 10) k = jI (ex_ (wd x h) a b (8 + k)) := fun k => by
    show (if x + 10 = x + 65 then _ else if x + 10 = x + 10 then jI (ex_ (wd x h) a b (8 + k)) else h.1 (x + 10) k) = _
    rw [if_neg (by omega), if_pos rfl]
  have h2 : ((fun q k => if q = x + 65 then jI (ex_ (wd x h) a b k) else if q = x + 10 then jI (ex_ (wd x h) a b (8 + k)) else h.1 q k, h.2) : XH).2 = h.2 := rfl
  generalize ((fun q k => if q = x + 65 then jI (ex_ (wd x h) a b k) else if q = x + 10 then jI (ex_ (wd x h) a b (8 + k)) else h.1 q k, h.2) : XH) = h0 at hw hr h10 h2
  have o : ∀ k, k < 8 ∨ 164 ≤ k → wd x h0 k = wd x h k := fun k hk => by rw [hw]; exact exo_ ha hb hk
  have hD : sD_ x h0 := by
    refine ⟨fun k hk => ?_, fun k hk => by rw [h10, hw]⟩
    rw [hw]
    unfold ex_
    split
    · have := I.1.2.1 (8 + k - 3 * a + 3 * b - 8) (by omega)
      rw [show 8 + (8 + k - 3 * a + 3 * b - 8) = 8 + k - 3 * a + 3 * b by omega] at this
      exact this
    · split
      · have := I.1.2.1 (8 + k - 3 * b + 3 * a - 8) (by omega)
        rw [show 8 + (8 + k - 3 * b + 3 * a - 8) = 8 + k - 3 * b + 3 * a by omega] at this
        exact this
      · exact I.1.2.1 k hk
  refine ⟨h0, I.sm (fun q n1 n2 n3 n4 n5 n6 n7 n8 => hr q n8 n2) (fun j _ _ _ => by rw [hr _ (by omega) (by omega)]) (by rw [hr _ (by omega) (by omega)]) (by rw [hr _ (by omega) (by omega)]) (by rw [hr _ (by omega) (by omega)]) (by rw [h2]) (fun k hk => o k (by omega)) (fun j hj => o _ (by omega)) (by rw [o 4 (by omega)]; exact w4) (by rw [o 5 (by omega)]; exact w5) (by rw [o 6 (by omega)]; omega) (by rw [hr _ (by omega) (by omega), o 6 (by omega)]; exact I.2.1.1.2.2.2.1) (by rw [hr _ (by omega) (by omega), o 4 (by omega)]; exact I.2.1.1.2.2.2.2.2.2.1) (by rw [hr _ (by omega) (by omega), o 5 (by omega)]; exact I.2.1.1.2.2.2.2.2.2.2) hD (I.sL (hr _ (by omega) (by omega)) (fun k hk => o k (by omega))) (I.sM (hr _ (by omega) (by omega)) (fun k hk => o k (by omega))) (I.sN (hr _ (by omega) (by omega)) (fun k h1 h2 => o k (by omega))) (I.sW (hr _ (by omega) (by omega)) (fun k hk => o k (by omega))), hw⟩
theorem r_chg {gh : Nat} {x : Nat} {K : XK} {h : XH} (I : Inv gh x K h) {t : Nat} (ht : (t : Int) < wd x h 2) : ∃ h2, f_X12_change_27 x x_FU h (jI t) (jI (-1)) (jI 0) (jI 0) = some (jI (fo_ (gn_ (wd x h) t) 52).2, h2) ∧ wd x h2 = wd x h ∧ (∀ q, q ≠ x + 65 → q ≠ x + 69 → q ≠ x + 70 → h2.1 q = h.1 q) ∧ h2.2 = h.2 := by
  have w1 := I.w1
  have p8 : ∀ p : Nat, (p : Int) < wd x h 1 → wd x h (290 + 81 * p + 2) ≤ 52 := fun p hp => (I.wp hp).2.2.2.2.2.2.2.1
  have per : ∀ p : Nat, (p : Int) < wd x h 1 → 1 ≤ wd x h (290 + 81 * p + 6) ∧ wd x h (290 + 81 * p + 6) ≤ 3 := fun p hp => ⟨(I.wp hp).2.2.2.2.2.2.2.2.2.2.1, (I.wp hp).2.2.2.2.2.2.2.2.2.2.2.1⟩
  have gb := gn_b (w := wd x h) (t := t) w1.2 p8
  have l40 : ∀ (k27 : XH → Int32 → Int32 → Int32 → Int32 → Option (Int32 × XH)) (a : Nat) (S : Int × Int) (h1 : XH), a < 52 → 0 ≤ S.1 ∧ S.1 ≤ 200000 ∧ -1 ≤ S.2 ∧ S.2 ≤ 2703 → wd x h1 = wd x h → (∀ q, q ≠ x + 65 → q ≠ x + 69 → q ≠ x + 70 → h1.1 q = h.1 q) → h1.2 = h.2 → ∃ h2, f_X12_change_40 k27 x x_FU h1 (jI t) (jI S.2) (jI S.1) (jI (a : Int)) (jI ((a : Int) + 1)) = k27 h2 (jI t) (jI (fi_ (gn_ (wd x h) t) a S (51 - a)).2) (jI (fi_ (gn_ (wd x h) t) a S (51 - a)).1) (jI (a : Int) + 1) ∧ wd x h2 = wd x h ∧ (∀ q, q ≠ x + 65 → q ≠ x + 69 → q ≠ x + 70 → h2.1 q = h.1 q) ∧ h2.2 = h.2 := fun k27 a S h1 ha hS e1 f1 f2 => by
    refine x_up0 (P := fun m n => ∀ h1 : XH, wd x h1 = wd x h → (∀ q, q ≠ x + 65 → q ≠ x + 69 → q ≠ x + 70 → h1.1 q = h.1 q) → h1.2 = h.2 → ∃ h2, f_X12_change_40 k27 x m h1 (jI t) (jI (fi_ (gn_ (wd x h) t) a S n).2) (jI (fi_ (gn_ (wd x h) t) a S n).1) (jI (a : Int)) (jI ((a + 1 + n : Nat) : Int)) = k27 h2 (jI t) (jI (fi_ (gn_ (wd x h) t) a S (51 - a)).2) (jI (fi_ (gn_ (wd x h) t) a S (51 - a)).1) (jI (a : Int) + 1) ∧ wd x h2 = wd x h ∧ (∀ q, q ≠ x + 65 → q ≠ x + 69 → q ≠ x + 70 → h2.1 q = h.1 q) ∧ h2.2 = h.2) (51 - a) (by omega) (fun m h1 e1 f1 f2 => by
      refine ⟨h1, ?_, e1, f1, f2⟩
      rw [f_X12_change_40, if_pos (show (52 : Int32) ≤ jI ((a + 1 + (51 - a) : Nat) : Int) from (jI_le (a := 52) (by omega) (by omega) (by omega) (by omega)).mpr (by omega))]) (fun m n hn ih h1 e1 f1 f2 => by
      have fb := fi_b gb ha hS n (by omega)
      have gg := gb a (a + 1 + n) ha (by omega)
      have ge := gn_e (w := wd x h) (t := t) (a := a) (b := a + 1 + n) ha (by omega) (by omega) per
      -- as it is
      have q1 := r_hb (I.rw e1) (t := t) (a := (a : Int)) (b := ((a + 1 + n : Nat) : Int)) (by rw [e1]; exact ht) (by omega) (by omega)
      rw [e1] at q1
      obtain ⟨h3, q1, q2, q3⟩ := q1
      have F3 : Fr x h1 h3 := Fr.o2 q2 q3 (by decide) (by decide)
      have e3 : wd x h3 = wd x h := by rw [F3.ew, e1]
      -- exchanged
      have x1 := r_exc (x := x) (h := h3) (by rw [e3]; exact I.1.2.1) (a := a) (b := a + 1 + n) ha (by omega) (by omega)
      rw [e3] at x1
      obtain ⟨h5, x1, x2, x3, x4⟩ := x1
      obtain ⟨h0, J0, ew0⟩ := I.ex (a := a) (b := a + 1 + n) ha (by omega)
      have rv5 : Rv gh x K h5 := J0.rw (by rw [x2, ew0])
      have ht5 : (t : Int) < wd x h5 2 := by
        rw [x2, exo_ ha (by omega) (by omega)]
        exact ht
      have y1 := r_hb rv5 (t := t) (a := (a : Int)) (b := ((a + 1 + n : Nat) : Int)) ht5 (by omega) (by omega)
      rw [x2] at y1
      obtain ⟨h6, y1, y2, y3⟩ := y1
      have F6 : Fr x h5 h6 := Fr.o2 y2 y3 (by decide) (by decide)
      have e6 : wd x h6 = ex_ (wd x h) a (a + 1 + n) := by rw [F6.ew, x2]
      -- and back
      have x5 := r_exc (x := x) (h := h6) (by rw [e6, ← ew0]; exact J0.1.2.1) (a := a) (b := a + 1 + n) ha (by omega) (by omega)
      rw [e6, ex_ex (by omega)] at x5
      obtain ⟨h7, x5, x6, x7, x8⟩ := x5
      have b1 := HB_b (w := wd x h) (t := t) (a := (a : Int)) (b := ((a + 1 + n : Nat) : Int)) w1.2 p8
      obtain ⟨h8, k1, k2, k3, k4⟩ := ih h7 x6 (fun q n1 n2 n3 => by rw [x7 q n1, y2 q n2 n3, x3 q n1, q2 q n2 n3]; exact f1 q n1 n2 n3) (by rw [x8, y3, x4, q3, f2])
      refine ⟨h8, ?_, k2, k3, k4⟩
      rw [f_X12_change_40, if_neg (show ¬ (52 : Int32) ≤ jI ((a + 1 + n : Nat) : Int) from fun q => absurd ((jI_le (a := 52) (by omega) (by omega) (by omega) (by omega)).mp q) (by omega)), q1, Option.bind_some, x1, Option.bind_some, y1, Option.bind_some, x5, Option.bind_some, jI_sub, ge, jI_s, ← k1]
      have e : fi_ (gn_ (wd x h) t) a S (n + 1) = if (fi_ (gn_ (wd x h) t) a S n).1 < gn_ (wd x h) t a (a + 1 + n) then (gn_ (wd x h) t a (a + 1 + n), 52 * (a : Int) + (a + 1 + n : Nat)) else fi_ (gn_ (wd x h) t) a S n := rfl
      by_cases c : (fi_ (gn_ (wd x h) t) a S n).1 < gn_ (wd x h) t a (a + 1 + n)
      · rw [if_pos ((jI_lt (by omega) (by omega) (by omega) (by omega)).mpr c), if_pos ((jI_lt (by omega) (by omega) (by omega) (by omega)).mpr c), e, if_pos c, show (52 : Int32) = jI 52 from rfl, jI_mul, jI_add]
        rfl
      · rw [if_neg (fun q => c ((jI_lt (by omega) (by omega) (by omega) (by omega)).mp q)), if_neg (fun q => c ((jI_lt (by omega) (by omega) (by omega) (by omega)).mp q)), e, if_neg c]
        rfl) h1 e1 f1 f2
  refine x_up0 (P := fun m n => ∀ h1 : XH, wd x h1 = wd x h → (∀ q, q ≠ x + 65 → q ≠ x + 69 → q ≠ x + 70 → h1.1 q = h.1 q) → h1.2 = h.2 → ∃ h2, f_X12_change_27 x m h1 (jI t) (jI (fo_ (gn_ (wd x h) t) n).2) (jI (fo_ (gn_ (wd x h) t) n).1) (jI (n : Int)) = some (jI (fo_ (gn_ (wd x h) t) 52).2, h2) ∧ wd x h2 = wd x h ∧ (∀ q, q ≠ x + 65 → q ≠ x + 69 → q ≠ x + 70 → h2.1 q = h.1 q) ∧ h2.2 = h.2) 52 (by omega) (fun m h1 e1 f1 f2 => by
    refine ⟨h1, ?_, e1, f1, f2⟩
    rw [f_X12_change_27, if_pos (by decide)]) (fun m n hn ih h1 e1 f1 f2 => by
    have fb := fo_b gb n (by omega)
    obtain ⟨h3, k1, k2, k3, k4⟩ := l40 (f_X12_change_27 x m) n (fo_ (gn_ (wd x h) t) n) h1 hn fb e1 f1 f2
    obtain ⟨h4, l1, l2, l3, l4⟩ := ih h3 k2 k3 k4
    refine ⟨h4, ?_, l2, l3, l4⟩
    rw [f_X12_change_27, if_neg (show ¬ (52 : Int32) ≤ jI (n : Int) from fun q => absurd ((jI_le (a := 52) (by omega) (by omega) (by omega) (by omega)).mp q) (by omega)), show (1 : Int32) = jI 1 from rfl, jI_add, k1, jI_s]
    exact l1) h rfl (fun _ _ _ _ => rfl) rfl
theorem P_row38 {gh : Nat} {x : Nat} {K : XK} {h : XH} (T : x_T x K h) (I : Inv gh x K h) (a1 : Int32) : ∃ h', f_row38 K x h a1 = some h' ∧ Inv gh x K h' := by
  obtain ⟨z1, z1a, z1b, rfl⟩ := jI_ex a1
  have e0 : ∀ b1, f_row38 K x h b1 = rc_ x (x_lb (f_X11_change K x h b1) [0] (fun v h => x_l h (x + 76) (0 : Int32).toNatClampNeg v.toInt64)) (fun h => f_X12_change x h b1) := fun _ => rfl
  rw [e0]
  have w2 := I.w2
  by_cases cL : 0 ≤ z1 ∧ z1 < wd x h 2
  · obtain ⟨t, rfl⟩ : ∃ t : Nat, z1 = t := ⟨z1.toNat, by omega⟩
    obtain ⟨hh, q1, q2, q3⟩ := c_bp T I cL.2
    refine rc_q I (res := .inr (jI (fo_ (gn_ (wd x h) t) 52).2)) ⟨hh, q1, Fr.o4 q2 q3 (by decide) (by decide) (by decide) (by decide)⟩ (fun H J eH => ?_)
    have ew : wd x (x_i H (x + 64) 0 (jI 0)) = wd x h := by rw [wm0, eH]
    have e1 := ckL_ry J.m0 (z := (t : Int)) (by rw [ew]; exact cL)
    have r := r_chg J.m0 (t := t) (by rw [ew]; exact cL.2)
    rw [ew] at r
    obtain ⟨H2, k1, k2, k3, k4⟩ := r
    have F : Fr x (x_i H (x + 64) 0 (jI 0)) H2 := by
      have e64 : H2.1 (x + 64) = (x_i H (x + 64) 0 (jI 0)).1 (x + 64) := k3 _ (by omega) (by omega) (by omega)
      have e1 : H2.1 (x + 1) = (x_i H (x + 64) 0 (jI 0)).1 (x + 1) := k3 _ (by omega) (by omega) (by omega)
      refine ⟨fun q n1 n2 n3 => ?_, by rw [e1], by rw [e1], by rw [e64], by rw [e64], by rw [e64], by rw [k4]⟩
      by_cases e : q = x + 65
      · subst e
        exact wd_row (by rw [k2, ew])
      · exact k3 q e (n1 69 (by decide)) (n1 70 (by decide))
    refine ⟨_, H2, ?_, fr_0.tr F, by rw [k4]; rfl, by rw [k3 _ (by omega) (by omega) (by omega)]; exact gi_s, rfl⟩
    unfold f_X12_change
    rw [xl_, show x_i H (x + 64) 0 (0 : Int32) = x_i H (x + 64) 0 (jI 0) from rfl, e1, Option.bind_some, tvz, Option.bind_some, if_pos (show jI 0 = (0 : Int32) from rfl), m1_, show (0 : Int32) = jI 0 from rfl, k1]
  · refine rc_q I (res := .inl 0) ⟨h, ?_, Fr.rf⟩ (fun H J eH => ⟨jI 0, x_i (x_i H (x + 64) 0 (jI 0)) (x + 64) 0 (jI 1), ?_, fr_t, rfl, 0, rfl, by decide, gi_s⟩)
    · unfold f_X11_change
      rw [ckL_n I ⟨z1a, z1b⟩ cL, xb_e]
    · have ew : wd x (x_i H (x + 64) 0 (jI 0)) = wd x h := by rw [wm0, eH]
      have e1 := ckL_rn J.m0 ⟨z1a, z1b⟩ (by rw [ew]; exact cL)
      unfold f_X12_change
      rw [xl_, show x_i H (x + 64) 0 (0 : Int32) = x_i H (x + 64) 0 (jI 0) from rfl, e1, Option.bind_some, tvo, Option.bind_some, if_neg (show ¬ jI 1 = (0 : Int32) by decide)]
      rfl
