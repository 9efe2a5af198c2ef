/-! ===== change, component ===== -/
def TB9 (x : Nat) (h : XH) (f : Nat → Nat → Nat → Int) : Prop := ∀ c q d : Nat, c < 52 → q < 3 → d < 10 → h.1 (x + 62) ((3 * c + q) * 10 + d) = jI (f c q d)
/-- which dullnesses there are, by role: every card's own is one -/
theorem c_pres {gh : Nat} {x : Nat} {K : XK} {h h1 : XH} (I : Inv gh x K h) {v1 : Option Nat} (f1 : ∀ a, a ≠ x + 44 → a ≠ x + 45 → a ≠ x + 62 → a ≠ x + 63 → h1.1 a = h.1 a) (f2 : h1.2 = h.2) (z : ∀ q : Nat, q < 3 → h1.1 (x + 63) q = 0) (f62 : ∀ k, k < 1560 → h1.1 (x + 62) k = jI 0) :
    ∃ h2, f_X0_sumUp_18 K x x_FU h1 v1 (jI 0) = f_X0_sumUp_60 K x x_FU h2 v1 0 ∧ (∀ a, a ≠ x + 44 → a ≠ x + 45 → a ≠ x + 62 → a ≠ x + 63 → h2.1 a = h.1 a) ∧ h2.2 = h.2 ∧ (∀ k, k < 1560 → h2.1 (x + 62) k = jI 0) ∧ ∀ c q : Nat, c < 52 → q < 3 → bi_ (h2.1 (x + 63) q) (wd x h (8 + 3 * c + q)).toNat = true := by
  have key := x_up0 (P := fun m n => ∀ h1 : XH, (∀ a, a ≠ x + 44 → a ≠ x + 45 → a ≠ x + 62 → a ≠ x + 63 → h1.1 a = h.1 a) → h1.2 = h.2 → (∀ k, k < 1560 → h1.1 (x + 62) k = jI 0) → (∀ c q : Nat, q < 3 → 3 * c + q < n → bi_ (h1.1 (x + 63) q) (wd x h (8 + 3 * c + q)).toNat = true) → ∃ h2, f_X0_sumUp_18 K x m h1 v1 (jI (n : Int)) = f_X0_sumUp_60 K x x_FU h2 v1 0 ∧ (∀ a, a ≠ x + 44 → a ≠ x + 45 → a ≠ x + 62 → a ≠ x + 63 → h2.1 a = h.1 a) ∧ h2.2 = h.2 ∧ (∀ k, k < 1560 → h2.1 (x + 62) k = jI 0) ∧ ∀ c q : Nat, c < 52 → q < 3 → bi_ (h2.1 (x + 63) q) (wd x h (8 + 3 * c + q)).toNat = true) 156 (by omega) (fun m h1 f1 f2 f3 f4 => by
    refine ⟨h1, ?_, f1, f2, f3, fun c q hc hq => f4 c q hq (by omega)⟩
    rw [f_X0_sumUp_18, if_pos (by decide)]) (fun m n hn ih h1 f1 f2 f3 f4 => by
    have dn : h1.1 (x + 10) n = jI (wd x h (8 + n)) := by
      rw [f1 _ (by omega) (by omega) (by omega) (by omega)]
      exact I.2.1.2.1 n hn
    have db := I.1.2.1 n hn
    rw [f_X0_sumUp_18, if_neg (show ¬ (156 : Int32) ≤ jI (n : Int) from fun q => absurd ((jI_le (a := 156) (by omega) (by omega) (by omega) (by omega)).mp q) (by omega)), show (3 : Int32) = jI 3 from rfl, jI_rem (by omega) (by omega) (by omega) (by omega), if_pos (jI_b (by omega) (by omega) (by omega)), if_pos (jI_b (by omega) (by omega) (by omega)), if_pos (jI_b (by omega) (by omega) (by omega)), xl_, nat_ (by omega), dn, jI_nat (by omega) (by omega), show ((n : Int) % 3).toNat = n % 3 by omega, jI_s]
    refine ih _ (fun a n1 n2 n3 n4 => by rw [gi_n n4]; exact f1 a n1 n2 n3 n4) f2 (fun k hk => by rw [gi_n (by omega)]; exact f3 k hk) (fun c q hq hcq => ?_)
    obtain ⟨d, hd⟩ : ∃ d : Nat, wd x h (8 + n) = d := ⟨(wd x h (8 + n)).toNat, by omega⟩
    rw [gi_]
    by_cases e : q = n % 3
    · rw [if_pos ⟨rfl, e⟩, bi_or, hd]
      by_cases e2 : 3 * c + q = n
      · rw [show 8 + 3 * c + q = 8 + n by omega, hd, Int.toNat_natCast, bi_one (by omega) (by omega), decide_eq_true rfl, Bool.or_true]
      · have := f4 c q hq (by omega)
        rw [e] at this ⊢
        rw [this, Bool.true_or]
    · rw [if_neg (fun z => e z.2)]
      exact f4 c q hq (by omega))
  exact key h1 f1 f2 f62 (fun c q _ hcq => absurd hcq (by omega))
theorem c_157 {gh : Nat} {x : Nat} {K : XK} {h h1 : XH} (I : Inv gh x K h) {k60 : XH → Option Nat → Int32 → Option XH} {k84 : XH → Option Nat → Int32 → Nat → Int32 → Option XH} {p t r : Nat} (hp : (p : Int) < wd x h 1) (hq : 0 < wd x h (290 + 81 * p + 3)) (ct : CTx x K h r (wd x h) (970 + 851 * t) false) (hx : WTx (wd x h) (970 + 851 * t) false) {i : Nat} (hi : (i : Int) < wd x h (290 + 81 * p + 2)) {pb : Nat → Int32}
    (f1 : ∀ a, a ≠ x + 44 → a ≠ x + 45 → a ≠ x + 62 → a ≠ x + 63 → h1.1 a = h.1 a) (f2 : h1.2 = h.2) (f63 : ∀ q, q < 3 → h1.1 (x + 63) q = pb q) {Tf : Nat → Nat → Nat → Int} (tb : TB9 x h1 Tf) (fp : FP x h1 (fg_ (wd x h) p (wd x h (290 + 81 * p + 4)) (wd x h (290 + 81 * p + 5)) (wd x h (290 + 81 * p + 6)) (wd x h (290 + 81 * p + 7)) (wd x h (290 + 81 * p + 8)) (wd x h (290 + 81 * p + 3)) (ag_ (wd x h) p (wd x h 6) ((i : Int) / wd x h (290 + 81 * p + 6))) ((i : Int) / wd x h (290 + 81 * p + 6)) 0 0)) :
    ∃ h2, f_X0_sumUp_138 k60 k84 K x h1 (some r) (jI p) (x + 13 + 6 + 3 * p) (jI i) (jI ((i : Int) % wd x h (290 + 81 * p + 6))) = k84 h2 (some r) (jI p) (x + 13 + 6 + 3 * p) (jI ((i + 1 : Nat) : Int)) ∧ (∀ a, a ≠ x + 44 → a ≠ x + 45 → a ≠ x + 62 → a ≠ x + 63 → h2.1 a = h.1 a) ∧ h2.2 = h.2 ∧ (∀ q, q < 3 → h2.1 (x + 63) q = pb q) ∧ TB9 x h2 (fun c q d => Tf c q d + (if cd_ (wd x h) p i = c ∧ (i : Int) % wd x h (290 + 81 * p + 6) = q then (if bi_ (pb q) d = true then hd_ (wd x h) t p i d else 0) else 0)) ∧ FP x h2 (fg_ (wd x h) p (wd x h (290 + 81 * p + 4)) (wd x h (290 + 81 * p + 5)) (wd x h (290 + 81 * p + 6)) (wd x h (290 + 81 * p + 7)) (wd x h (290 + 81 * p + 8)) (wd x h (290 + 81 * p + 3)) (ag_ (wd x h) p (wd x h 6) ((i : Int) / wd x h (290 + 81 * p + 6))) ((i : Int) / wd x h (290 + 81 * p + 6)) 0 0) := by
  have w1 := I.w1
  have w6 := I.w6
  have rr := ct.1
  have gn := I.gn hp
  obtain ⟨tm, qq, P1, P2, P3, P4, P5, P6, P7⟩ := I.put hp hq
  obtain ⟨-, -, -, b6, b7, -⟩ := id P2
  obtain ⟨-, -, -, -, -, -, p7, p8, -⟩ := I.wp hp
  have hpl := pl_b p7 p8 b6 b7
  obtain ⟨-, -, -, -, -, n6, n7, n8, n9, n10⟩ := nm_ (per := wd x h (290 + 81 * p + 6)) (i := (i : Int)) (n := wd x h (290 + 81 * p + 2)) b6 b7 (by omega)
  have ni := n10 hi
  have Pi := P7 _ n8 ni
  have ab : 0 ≤ ag_ (wd x h) p (wd x h 6) ((i : Int) / wd x h (290 + 81 * p + 6)) ∧ ag_ (wd x h) p (wd x h 6) ((i : Int) / wd x h (290 + 81 * p + 6)) ≤ 120000 := by
    unfold ag_
    rw [Pi.1]
    omega
  have F : Fr x h h1 := Fr.o4 f1 f2 (by decide) (by decide) (by decide) (by decide)
  have ew := F.ew
  have cb := cd_b (wd x h) p i
  have cc := c_card (I.fr F) (p := p) (by rw [ew]; exact hp) (i := (i : Int)) (by omega)
  rw [ew] at cc
  obtain ⟨c0, hc0⟩ : ∃ c0 : Nat, cd_ (wd x h) p (i : Int) = c0 := ⟨(cd_ (wd x h) p (i : Int)).toNat, by omega⟩
  obtain ⟨q0, hq0⟩ : ∃ q0 : Nat, (i : Int) % wd x h (290 + 81 * p + 6) = q0 := ⟨((i : Int) % wd x h (290 + 81 * p + 6)).toNat, by omega⟩
  rw [hc0] at cc
  rw [hc0, hq0]
  have row : jI (c0 : Int) * 3 + jI (q0 : Int) = jI (((3 * c0 + q0 : Nat)) : Int) := by
    rw [show (3 : Int32) = jI 3 from rfl, jI_mul, jI_add]
    congr 1
    omega
  have row2 : (jI (c0 : Int) * 3 + jI (q0 : Int)) * 10 = jI (((3 * c0 + q0) * 10 : Nat) : Int) := by
    rw [row, show (10 : Int32) = jI 10 from rfl, jI_mul]
    congr 1
  unfold f_X0_sumUp_138
  rw [cc, row2, xl_]
  have key := x_up0 (P := fun m n => ∀ h1 : XH, (∀ a, a ≠ x + 44 → a ≠ x + 45 → a ≠ x + 62 → a ≠ x + 63 → h1.1 a = h.1 a) → h1.2 = h.2 → (∀ q, q < 3 → h1.1 (x + 63) q = pb q) → TB9 x h1 (fun c q d => Tf c q d + (if (c0 : Int) = c ∧ (q0 : Int) = q then (if d < n ∧ bi_ (pb q) d = true then hd_ (wd x h) t p i d else 0) else 0)) → FP x h1 (fg_ (wd x h) p (wd x h (290 + 81 * p + 4)) (wd x h (290 + 81 * p + 5)) (wd x h (290 + 81 * p + 6)) (wd x h (290 + 81 * p + 7)) (wd x h (290 + 81 * p + 8)) (wd x h (290 + 81 * p + 3)) (ag_ (wd x h) p (wd x h 6) ((i : Int) / wd x h (290 + 81 * p + 6))) ((i : Int) / wd x h (290 + 81 * p + 6)) 0 0) → ∃ h2, f_X0_sumUp_157 k60 k84 K x m h1 (some r) (jI p) (x + 13 + 6 + 3 * p) (jI i) (jI (q0 : Int)) (jI (((3 * c0 + q0) * 10 : Nat) : Int)) (jI (n : Int)) = k84 h2 (some r) (jI p) (x + 13 + 6 + 3 * p) (jI ((i + 1 : Nat) : Int)) ∧ (∀ a, a ≠ x + 44 → a ≠ x + 45 → a ≠ x + 62 → a ≠ x + 63 → h2.1 a = h.1 a) ∧ h2.2 = h.2 ∧ (∀ q, q < 3 → h2.1 (x + 63) q = pb q) ∧ TB9 x h2 (fun c q d => Tf c q d + (if (c0 : Int) = c ∧ (q0 : Int) = q then (if bi_ (pb q) d = true then hd_ (wd x h) t p i d else 0) else 0)) ∧ FP x h2 (fg_ (wd x h) p (wd x h (290 + 81 * p + 4)) (wd x h (290 + 81 * p + 5)) (wd x h (290 + 81 * p + 6)) (wd x h (290 + 81 * p + 7)) (wd x h (290 + 81 * p + 8)) (wd x h (290 + 81 * p + 3)) (ag_ (wd x h) p (wd x h 6) ((i : Int) / wd x h (290 + 81 * p + 6))) ((i : Int) / wd x h (290 + 81 * p + 6)) 0 0)) 10 (by omega) (fun m h1 f1 f2 f63 tb fp => by
    refine ⟨h1, ?_, f1, f2, f63, fun c q d hc hq hd => ?_, fp⟩
    · rw [f_X0_sumUp_157, if_pos (by decide), jI_s]
    · rw [tb c q d hc hq hd]
      simp only [hd, true_and]) (fun m n hn ih h1 f1 f2 f63 tb fp => by
    have idx : jI (((3 * c0 + q0) * 10 : Nat) : Int) + jI (n : Int) = jI (((3 * c0 + q0) * 10 + n : Nat) : Int) := by
      rw [jI_add]
      rfl
    have t0 := tb c0 q0 n (by omega) (by omega) (by omega)
    dsimp only at t0
    rw [if_pos ⟨rfl, rfl⟩, if_neg (fun q => absurd q.1 (by omega)), Int.add_zero] at t0
    -- one cell of the table is written
    have nxt : ∀ (h5 : XH) (v : Int), (∀ a, a ≠ x + 44 → a ≠ x + 45 → h5.1 a = h1.1 a) → h5.2 = h1.2 → FP x h5 (fg_ (wd x h) p (wd x h (290 + 81 * p + 4)) (wd x h (290 + 81 * p + 5)) (wd x h (290 + 81 * p + 6)) (wd x h (290 + 81 * p + 7)) (wd x h (290 + 81 * p + 8)) (wd x h (290 + 81 * p + 3)) (ag_ (wd x h) p (wd x h 6) ((i : Int) / wd x h (290 + 81 * p + 6))) ((i : Int) / wd x h (290 + 81 * p + 6)) 0 0) → v = (if bi_ (pb q0) n = true then hd_ (wd x h) t p i n else 0) → ∃ h2, f_X0_sumUp_207 k60 k84 (f_X0_sumUp_157 k60 k84 K x m) K x h5 (some r) (jI p) (x + 13 + 6 + 3 * p) (jI i) (jI (q0 : Int)) (jI (((3 * c0 + q0) * 10 : Nat) : Int)) (jI (n : Int)) (jI (((3 * c0 + q0) * 10 + n : Nat) : Int)) (jI (Tf c0 q0 n)) (jI v) = k84 h2 (some r) (jI p) (x + 13 + 6 + 3 * p) (jI ((i + 1 : Nat) : Int)) ∧ (∀ a, a ≠ x + 44 → a ≠ x + 45 → a ≠ x + 62 → a ≠ x + 63 → h2.1 a = h.1 a) ∧ h2.2 = h.2 ∧ (∀ q, q < 3 → h2.1 (x + 63) q = pb q) ∧ TB9 x h2 (fun c q d => Tf c q d + (if (c0 : Int) = c ∧ (q0 : Int) = q then (if bi_ (pb q) d = true then hd_ (wd x h) t p i d else 0) else 0)) ∧ FP x h2 (fg_ (wd x h) p (wd x h (290 + 81 * p + 4)) (wd x h (290 + 81 * p + 5)) (wd x h (290 + 81 * p + 6)) (wd x h (290 + 81 * p + 7)) (wd x h (290 + 81 * p + 8)) (wd x h (290 + 81 * p + 3)) (ag_ (wd x h) p (wd x h 6) ((i : Int) / wd x h (290 + 81 * p + 6))) ((i : Int) / wd x h (290 + 81 * p + 6)) 0 0) := fun h5 v g1 g2 g3 ev => by
      unfold f_X0_sumUp_207
      rw [if_pos (jI_b (by omega) (by omega) (by omega)), xl_, nat_ (by omega), jI_add, jI_s]
      refine ih _ (fun a n1 n2 n3 n4 => by rw [gi_n n3, g1 a n1 n2]; exact f1 a n1 n2 n3 n4) (by show h5.2 = _; rw [g2, f2]) (fun q hq => by rw [gi_n (by omega), g1 _ (by omega) (by omega)]; exact f63 q hq) (fun c q d hc hq hd => ?_) (fun s s0 s1 s2 s3 => by rw [gi_n (by omega)]; exact g3 s s0 s1 s2 s3)
      rw [gi_]
      have td := tb c q d hc hq hd
      dsimp only at td ⊢
      by_cases e : (3 * c + q) * 10 + d = (3 * c0 + q0) * 10 + n
      · rw [if_pos ⟨rfl, e⟩]
        have e1 : c = c0 := by omega
        have e2 : q = q0 := by omega
        have e3 : d = n := by omega
        subst e1 e2 e3
        rw [if_pos ⟨rfl, rfl⟩, ev]
        by_cases bb : bi_ (pb q) d = true
        · rw [if_pos bb, if_pos ⟨by omega, bb⟩]
        · rw [if_neg bb, if_neg (fun z => bb z.2)]
      · rw [if_neg (fun z => e z.2), g1 _ (by omega) (by omega), td]
        congr 2
        by_cases e4 : (c0 : Int) = c ∧ (q0 : Int) = q
        · rw [if_pos e4, if_pos e4]
          have : d ≠ n := fun z => e (by omega)
          by_cases bb : bi_ (pb q) d = true
          · by_cases dn : d < n
            · rw [if_pos ⟨dn, bb⟩, if_pos ⟨by omega, bb⟩]
            · rw [if_neg (fun z => dn z.1), if_neg (fun z => dn (by omega))]
          · rw [if_neg (fun z => bb z.2), if_neg (fun z => bb z.2)]
        · rw [if_neg e4, if_neg e4]
    rw [f_X0_sumUp_157, if_neg (show ¬ (10 : Int32) ≤ jI (n : Int) from fun q => absurd ((jI_le (a := 10) (by omega) (by omega) (by omega) (by omega)).mp q) (by omega)), idx, if_pos (jI_b (by omega) (by omega) (by omega)), if_pos (jI_b (by omega) (by omega) (by omega)), nat_ (by omega), nat_ (by omega), f63 q0 (by omega), bi_at (by omega), t0]
    by_cases bb : bi_ (pb q0) n = true
    · rw [if_pos bb, if_pos rfl]
      have c' : CTx x K h1 r (wd x h) (970 + 851 * t) false := ct.c ⟨hx.1, hx.2.1⟩ (fun _ _ _ => rfl) (fun a q1 _ => f1 a (by omega) (by omega) (by omega) (by omega)) (fun _ _ _ => rfl)
      have gk := fg_k I (p := p) (hs := wd x h (290 + 81 * p + 4)) (dr := wd x h (290 + 81 * p + 5)) (per := wd x h (290 + 81 * p + 6)) (sec := wd x h (290 + 81 * p + 7)) (gone := wd x h (290 + 81 * p + 8)) (ah := wd x h (290 + 81 * p + 3)) (pl := (i : Int) / wd x h (290 + 81 * p + 6)) (age := ag_ (wd x h) p (wd x h 6) ((i : Int) / wd x h (290 + 81 * p + 6))) (ro := (q0 : Int)) (du := (n : Int)) P3 ⟨P4.1, by omega⟩ ab ⟨b6, b7⟩ (by omega) (by omega) hpl.2
      obtain ⟨h5, s1, s2, s3, s4⟩ := c_hw c' hx (ro := (q0 : Int)) (du := (n : Int)) (FP.c fp) (by simp [fg_]) (by simp [fg_]) gk
      have ehd : hd_ (wd x h) t p i n = cl_ (tl_ (wd x h) (970 + 851 * t) (fg_ (wd x h) p (wd x h (290 + 81 * p + 4)) (wd x h (290 + 81 * p + 5)) (wd x h (290 + 81 * p + 6)) (wd x h (290 + 81 * p + 7)) (wd x h (290 + 81 * p + 8)) (wd x h (290 + 81 * p + 3)) (ag_ (wd x h) p (wd x h 6) ((i : Int) / wd x h (290 + 81 * p + 6))) ((i : Int) / wd x h (290 + 81 * p + 6)) (q0 : Int) (n : Int))) := by
        unfold hd_
        rw [hq0]
      rw [s1, Option.bind_some, ← ehd]
      exact nxt h5 _ s2 s3 (FP.c s4) (by rw [if_pos bb])
    · rw [if_neg bb, if_neg (by decide)]
      exact nxt h1 0 (fun _ _ _ => rfl) rfl fp (by rw [if_neg bb]))
  exact key h1 f1 f2 f63 (fun c q d hc hq hd => by
    rw [tb c q d hc hq hd]
    dsimp only
    congr 1
    split
    · rw [if_neg (fun z => absurd z.1 (by omega)), Int.add_zero]
    · rw [Int.add_zero]) fp
theorem c_84 {gh : Nat} {x : Nat} {K : XK} {h h1 : XH} (I : Inv gh x K h) {k60 : XH → Option Nat → Int32 → Option XH} {p t r : Nat} (hp : (p : Int) < wd x h 1) (ct : CTx x K h r (wd x h) (970 + 851 * t) false) (hx : WTx (wd x h) (970 + 851 * t) false) {pb : Nat → Int32} (f1 : ∀ a, a ≠ x + 44 → a ≠ x + 45 → a ≠ x + 62 → a ≠ x + 63 → h1.1 a = h.1 a) (f2 : h1.2 = h.2) (f63 : ∀ q, q < 3 → h1.1 (x + 63) q = pb q) {Tf : Nat → Nat → Nat → Int} (tb : TB9 x h1 Tf) :
    ∃ h2, f_X0_sumUp_84 k60 K x x_FU h1 (some r) (jI p) (x + 13 + 6 + 3 * p) (jI 0) = k60 h2 (some r) (jI p + 1) ∧ (∀ a, a ≠ x + 44 → a ≠ x + 45 → a ≠ x + 62 → a ≠ x + 63 → h2.1 a = h.1 a) ∧ h2.2 = h.2 ∧ (∀ q, q < 3 → h2.1 (x + 63) q = pb q) ∧ TB9 x h2 (fun c q d => Tf c q d + (if bi_ (pb q) d = true then (if 0 < wd x h (290 + 81 * p + 3) then SP_ (wd x h) t p c q d (wd x h (290 + 81 * p + 2)).toNat else 0) else 0)) := by
  have w1 := I.w1
  have w6 := I.w6
  have rr := ct.1
  obtain ⟨q1, q2, q3, q4, q5, -⟩ := I.pk hp
  obtain ⟨-, -, -, -, -, -, p7, p8, -⟩ := I.wp hp
  by_cases cq : 0 < wd x h (290 + 81 * p + 3)
  · rw [if_pos cq] at q4
    obtain ⟨tm, qq, P1, P2, P3, P4, P5, P6, P7⟩ := I.put hp cq
    obtain ⟨-, -, -, b6, b7, -⟩ := id P2
    have key := x_up0 (P := fun m n => ∀ h1 : XH, (∀ a, a ≠ x + 44 → a ≠ x + 45 → a ≠ x + 62 → a ≠ x + 63 → h1.1 a = h.1 a) → h1.2 = h.2 → (∀ q, q < 3 → h1.1 (x + 63) q = pb q) → TB9 x h1 (fun c q d => Tf c q d + (if bi_ (pb q) d = true then SP_ (wd x h) t p c q d n else 0)) → ((n : Int) % wd x h (290 + 81 * p + 6) ≠ 0 → FP x h1 (fg_ (wd x h) p (wd x h (290 + 81 * p + 4)) (wd x h (290 + 81 * p + 5)) (wd x h (290 + 81 * p + 6)) (wd x h (290 + 81 * p + 7)) (wd x h (290 + 81 * p + 8)) (wd x h (290 + 81 * p + 3)) (ag_ (wd x h) p (wd x h 6) ((n : Int) / wd x h (290 + 81 * p + 6))) ((n : Int) / wd x h (290 + 81 * p + 6)) 0 0)) → ∃ h2, f_X0_sumUp_84 k60 K x m h1 (some r) (jI p) (x + 13 + 6 + 3 * p) (jI (n : Int)) = k60 h2 (some r) (jI p + 1) ∧ (∀ a, a ≠ x + 44 → a ≠ x + 45 → a ≠ x + 62 → a ≠ x + 63 → h2.1 a = h.1 a) ∧ h2.2 = h.2 ∧ (∀ q, q < 3 → h2.1 (x + 63) q = pb q) ∧ TB9 x h2 (fun c q d => Tf c q d + (if bi_ (pb q) d = true then (if 0 < wd x h (290 + 81 * p + 3) then SP_ (wd x h) t p c q d (wd x h (290 + 81 * p + 2)).toNat else 0) else 0))) (wd x h (290 + 81 * p + 2)).toNat (by omega) (fun m h1 f1 f2 f63 tb _ => by
      refine ⟨h1, ?_, f1, f2, f63, ?_⟩
      · rw [f_X0_sumUp_84, f1 (x + 13 + 6 + 3 * p) (by omega) (by omega) (by omega) (by omega), q3, if_pos ((jI_le (by omega) (by omega) (by omega) (by omega)).mpr (by omega))]
        rfl
      · simp only [if_pos cq]
        exact tb) (fun m n hn ih h1 f1 f2 f63 tb fp => by
      have F : Fr x h h1 := Fr.o4 f1 f2 (by decide) (by decide) (by decide) (by decide)
      have ew := F.ew
      have J := I.fr F
      obtain ⟨-, -, n3, n4, n5, n6, n7, n8, n9, n10⟩ := nm_ (per := wd x h (290 + 81 * p + 6)) (i := (n : Int)) (n := wd x h (290 + 81 * p + 2)) b6 b7 (by omega)
      have ni := n10 (by omega)
      have Pi := P7 _ n8 ni
      have pr := c_plc J (p := p) (by rw [ew]; exact hp) (by rw [ew]; exact cq) (i := (n : Int)) (by omega)
      rw [ew] at pr
      -- once the place is faced
      have rest : ∀ h3 : XH, (∀ a, a ≠ x + 44 → a ≠ x + 45 → a ≠ x + 62 → a ≠ x + 63 → h3.1 a = h.1 a) → h3.2 = h.2 → (∀ q, q < 3 → h3.1 (x + 63) q = pb q) → TB9 x h3 (fun c q d => Tf c q d + (if bi_ (pb q) d = true then SP_ (wd x h) t p c q d n else 0)) → FP x h3 (fg_ (wd x h) p (wd x h (290 + 81 * p + 4)) (wd x h (290 + 81 * p + 5)) (wd x h (290 + 81 * p + 6)) (wd x h (290 + 81 * p + 7)) (wd x h (290 + 81 * p + 8)) (wd x h (290 + 81 * p + 3)) (ag_ (wd x h) p (wd x h 6) ((n : Int) / wd x h (290 + 81 * p + 6))) ((n : Int) / wd x h (290 + 81 * p + 6)) 0 0) → ∃ h2, f_X0_sumUp_138 k60 (f_X0_sumUp_84 k60 K x m) K x h3 (some r) (jI p) (x + 13 + 6 + 3 * p) (jI n) (jI ((n : Int) % wd x h (290 + 81 * p + 6))) = k60 h2 (some r) (jI p + 1) ∧ (∀ a, a ≠ x + 44 → a ≠ x + 45 → a ≠ x + 62 → a ≠ x + 63 → h2.1 a = h.1 a) ∧ h2.2 = h.2 ∧ (∀ q, q < 3 → h2.1 (x + 63) q = pb q) ∧ TB9 x h2 (fun c q d => Tf c q d + (if bi_ (pb q) d = true then (if 0 < wd x h (290 + 81 * p + 3) then SP_ (wd x h) t p c q d (wd x h (290 + 81 * p + 2)).toNat else 0) else 0)) := by
        intro h3 g1 g2 g3 g4 g5
        obtain ⟨h4, k1, k2, k3, k4, k5, k6⟩ := c_157 I (k60 := k60) (k84 := f_X0_sumUp_84 k60 K x m) hp cq ct hx (i := n) (by omega) g1 g2 g3 g4 g5
        obtain ⟨h5, l1, l2, l3, l4, l5⟩ := ih h4 k2 k3 k4 (fun c q d hc hq hd => by
          rw [k5 c q d hc hq hd]
          dsimp only
          congr 1
          have e : SP_ (wd x h) t p c q d (n + 1) = SP_ (wd x h) t p c q d n + (if cd_ (wd x h) p n = c ∧ (n : Int) % wd x h (290 + 81 * p + 6) = q then hd_ (wd x h) t p n d else 0) := rfl
          rw [e]
          by_cases bb : bi_ (pb q) d = true
          · rw [if_pos bb, if_pos bb, if_pos bb, Int.add_assoc]
          · rw [if_neg bb, if_neg bb, if_neg bb, ite_self, Int.add_zero, Int.add_zero]) (fun e => by
          rw [show ((n + 1 : Nat) : Int) = (n : Int) + 1 by omega] at e ⊢
          rw [n5 e]
          exact k6)
        refine ⟨h5, ?_, l2, l3, l4, l5⟩
        rw [k1, l1]
      rw [f_X0_sumUp_84, f1 (x + 13 + 6 + 3 * p) (by omega) (by omega) (by omega) (by omega), q3, q4, if_neg (fun q => absurd ((jI_le (by omega) (by omega) (by omega) (by omega)).mp q) (by omega)), if_neg (show ¬ jI 1 = (0 : Int32) by decide), pr.2, Option.bind_some, pr.1, Option.bind_some, f1 (x + 9) (by omega) (by omega) (by omega) (by omega), show h.1 (x + 9) 7 = jI (wd x h 6) from I.2.1.1.2.2.2.1]
      by_cases e : (n : Int) % wd x h (290 + 81 * p + 6) = 0
      · rw [if_pos (show jI ((n : Int) % wd x h (290 + 81 * p + 6)) = (0 : Int32) by rw [e]; rfl)]
        have P1' : PT h1 (x + 13 + 6 + 3 * p + 1) (wd x h (290 + 81 * p + 4)) (wd x h (290 + 81 * p + 5)) (wd x h (290 + 81 * p + 6)) (wd x h (290 + 81 * p + 7)) (wd x h (290 + 81 * p + 8)) tm qq (wd x h (290 + 81 * p + 3) - 1) := by
          unfold PT
          rw [f1 _ (by omega) (by omega) (by omega) (by omega)]
          exact P1
        have fc := c_face J (p := p) (by rw [ew]; exact hp) (pl := (n : Int) / wd x h (290 + 81 * p + 6)) (ck := wd x h 6) (by omega) P1' (by rw [ew]; exact P2) (by rw [ew]; exact ⟨n8, ni⟩) (by omega) 0 0
        rw [ew, Int.sub_add_cancel] at fc
        obtain ⟨h3, g1, g2, g3, g4⟩ := fc
        rw [g1, Option.bind_some]
        have ea : (wd x h 6 - tm - (n : Int) / wd x h (290 + 81 * p + 6) * qq) / 10 = ag_ (wd x h) p (wd x h 6) ((n : Int) / wd x h (290 + 81 * p + 6)) := by
          unfold ag_
          rw [Pi.1, show wd x h 6 - tm - (n : Int) / wd x h (290 + 81 * p + 6) * qq = wd x h 6 - (tm + (n : Int) / wd x h (290 + 81 * p + 6) * qq) by omega]
        rw [ea] at g4
        exact rest h3 (fun a n1 n2 n3 n4 => by rw [g2 a n1]; exact f1 a n1 n2 n3 n4) (by rw [g3, f2]) (fun q hq => by rw [g2 _ (by omega)]; exact f63 q hq) (fun c q d hc hq hd => by rw [g2 _ (by omega)]; exact tb c q d hc hq hd) g4
      · rw [if_neg (j_ne0 e (by omega) (by omega))]
        exact rest h1 f1 f2 f63 tb (fp e))
    refine key h1 f1 f2 f63 (fun c q d hc hq hd => by
      rw [tb c q d hc hq hd]
      dsimp only
      have z : SP_ (wd x h) t p c q d 0 = 0 := rfl
      rw [z, ite_self, Int.add_zero]) (fun e => absurd (by rw [show ((0 : Nat) : Int) = 0 by rfl, Int.zero_emod]) e)
  · rw [if_neg cq] at q4
    refine ⟨h1, ?_, f1, f2, f63, ?_⟩
    · show f_X0_sumUp_84 k60 K x (99999 + 1) h1 (some r) (jI p) (x + 13 + 6 + 3 * p) (jI 0) = _
      rw [f_X0_sumUp_84, f1 (x + 13 + 6 + 3 * p) (by omega) (by omega) (by omega) (by omega), q3, q4, if_neg (fun q => absurd ((jI_le (by omega) (by omega) (by omega) (by omega)).mp q) (by omega)), if_pos (show jI 0 = (0 : Int32) from rfl)]
      rfl
    · simp only [if_neg cq, ite_self, Int.add_zero]
      exact tb
theorem c_60 {gh : Nat} {x : Nat} {K : XK} {h h1 : XH} (I : Inv gh x K h) {t r : Nat} (ct : CTx x K h r (wd x h) (970 + 851 * t) false) (hx : WTx (wd x h) (970 + 851 * t) false) {pb : Nat → Int32} (f1 : ∀ a, a ≠ x + 44 → a ≠ x + 45 → a ≠ x + 62 → a ≠ x + 63 → h1.1 a = h.1 a) (f2 : h1.2 = h.2) (f63 : ∀ q, q < 3 → h1.1 (x + 63) q = pb q) (tb : TB9 x h1 (fun _ _ _ => 0)) :
    ∃ h2, f_X0_sumUp_60 K x x_FU h1 (some r) 0 = some h2 ∧ (∀ a, a ≠ x + 44 → a ≠ x + 45 → a ≠ x + 62 → a ≠ x + 63 → h2.1 a = h.1 a) ∧ h2.2 = h.2 ∧ TB9 x h2 (fun c q d => if bi_ (pb q) d = true then SF_ (wd x h) t c q d (wd x h 1).toNat else 0) := by
  have w1 := I.w1
  have e4 : h.1 (x + 9) 4 = jI (wd x h 1) := I.2.1.1.2.1
  have key := x_up0 (P := fun m n => ∀ h1 : XH, (∀ a, a ≠ x + 44 → a ≠ x + 45 → a ≠ x + 62 → a ≠ x + 63 → h1.1 a = h.1 a) → h1.2 = h.2 → (∀ q, q < 3 → h1.1 (x + 63) q = pb q) → TB9 x h1 (fun c q d => if bi_ (pb q) d = true then SF_ (wd x h) t c q d n else 0) → ∃ h2, f_X0_sumUp_60 K x m h1 (some r) (jI (n : Int)) = some h2 ∧ (∀ a, a ≠ x + 44 → a ≠ x + 45 → a ≠ x + 62 → a ≠ x + 63 → h2.1 a = h.1 a) ∧ h2.2 = h.2 ∧ TB9 x h2 (fun c q d => if bi_ (pb q) d = true then SF_ (wd x h) t c q d (wd x h 1).toNat else 0)) (wd x h 1).toNat (by omega) (fun m h1 f1 f2 f63 tb => by
    refine ⟨h1, ?_, f1, f2, tb⟩
    rw [f_X0_sumUp_60, f1 (x + 9) (by omega) (by omega) (by omega) (by omega), e4, if_pos ((jI_le (by omega) (by omega) (by omega) (by omega)).mpr (by omega))]) (fun m n hn ih h1 f1 f2 f63 tb => by
    obtain ⟨h2, k1, k2, k3, k4, k5⟩ := c_84 I (k60 := f_X0_sumUp_60 K x m) (p := n) (by omega) ct hx f1 f2 f63 tb
    obtain ⟨h3, l1, l2, l3, l4⟩ := ih h2 k2 k3 k4 (fun c q d hc hq hd => by
      rw [k5 c q d hc hq hd]
      dsimp only
      congr 1
      have e : SF_ (wd x h) t c q d (n + 1) = SF_ (wd x h) t c q d n + (if 0 < wd x h (290 + 81 * n + 3) then SP_ (wd x h) t n c q d (wd x h (290 + 81 * n + 2)).toNat else 0) := rfl
      rw [e]
      by_cases bb : bi_ (pb q) d = true
      · rw [if_pos bb, if_pos bb, if_pos bb]
      · rw [if_neg bb, if_neg bb, if_neg bb]; rfl)
    refine ⟨h3, ?_, l2, l3, l4⟩
    rw [f_X0_sumUp_60, f1 (x + 9) (by omega) (by omega) (by omega) (by omega), e4, if_neg (fun q => absurd ((jI_le (by omega) (by omega) (by omega) (by omega)).mp q) (by omega)), if_pos (jI_b (by omega) (by omega) (by omega)), nat_ (by omega), show (0 : Int32) = jI 0 from rfl, k1, jI_s, l1])
  exact key h1 f1 f2 f63 (fun c q d hc hq hd => by
    rw [tb c q d hc hq hd]
    dsimp only
    have z : SF_ (wd x h) t c q d 0 = 0 := rfl
    rw [z, ite_self])
