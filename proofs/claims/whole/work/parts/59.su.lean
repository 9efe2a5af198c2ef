/-! ===== what a card holds in the component ===== -/
theorem FP.c {x : Nat} {h : XH} {w : Nat → Int} {p : Nat} {hs dr per sec gone ah age pl ro du ro' du' : Int} (f : FP x h (fg_ w p hs dr per sec gone ah age pl ro du)) : FP x h (fg_ w p hs dr per sec gone ah age pl ro' du') := fun s s0 s1 s2 s3 => by
  rw [f s s0 s1 s2 s3]
  unfold fg_
  simp only [if_neg s2, if_neg s3]
theorem c_hw {x r b : Nat} {K : XK} {h : XH} {w : Nat → Int} {G : Int → Int} {ro du : Int} (c : CTx x K h r w b false) (hx : WTx w b false) (hF : FP x h G) (h7 : G 7 = ro) (h1 : G 1 = du) (hg : gk_ false G) :
    ∃ h2, f_X5_heldWith K x h (some r) (jI ro) (jI du) = some (jI (cl_ (tl_ w b G)), h2) ∧ (∀ a, a ≠ x + 44 → a ≠ x + 45 → h2.1 a = h.1 a) ∧ h2.2 = h.2 ∧ FP x h2 G := by
  have hr := c.1
  have c4 : CTx x K (x_i (x_i h (x + 44) 7 (jI ro)) (x + 44) 1 (jI du)) r w b false := c.c ⟨hx.1, hx.2.1⟩ (fun _ _ _ => rfl) (fun a q1 _ => by rw [gi_n (by omega), gi_n (by omega)]) (fun _ _ _ => rfl)
  have f4 : fx_ x (x_i (x_i h (x + 44) 7 (jI ro)) (x + 44) 1 (jI du)) false G := fun s s0 s1 _ => by
    rw [if_neg (by simp)]
    by_cases e1 : s = 1
    · subst e1
      rw [h1]
      exact gi_s
    · by_cases e7 : s = 7
      · subst e7
        rw [h7]
        exact (gi_k (by decide)).trans gi_s
      · rw [gi_k (by omega), gi_k (by omega)]
        exact hF s s0 s1 e1 e7
  obtain ⟨h2, g1, g2, g3⟩ := c_held c4 hx f4 hg
  refine ⟨h2, ?_, fun a n1 n2 => by rw [g2 a n2, gi_n n1, gi_n n1], g3, fun s s0 s1 e1 e7 => ?_⟩
  · unfold f_X5_heldWith
    rw [if_pos (by decide), xl_, if_pos (by decide), xl_]
    have g1' : f_X9_heldBy K x (x_i (x_i h (x + 44) (7 : Int32).toNatClampNeg (jI ro)) (x + 44) (1 : Int32).toNatClampNeg (jI du)) (some r) = _ := g1
    rw [g1', Option.bind_some]
  · rw [g2 _ (by omega), gi_k (by omega), gi_k (by omega)]
    exact hF s s0 s1 e1 e7
def hg_ (w : Nat → Int) (t p : Nat) (hs dr per sec gone ah : Int) (age : Int → Int) (i : Int) : Int := cl_ (tl_ w (970 + 851 * t) (fg_ w p hs dr per sec gone ah (age (i / per)) (i / per) (i % per) (du_ w (cd_ w p i) (i % per))))
def swg_ (w : Nat → Int) (t p : Nat) (hs dr per sec gone ah : Int) (age : Int → Int) (n : Nat) : Int := sm_ n (fun i => hg_ w t p hs dr per sec gone ah age i)
theorem swg_b {w : Nat → Int} {t p : Nat} {hs dr per sec gone ah : Int} {age : Int → Int} {n : Nat} : 0 ≤ swg_ w t p hs dr per sec gone ah age n ∧ swg_ w t p hs dr per sec gone ah age n ≤ n * 100 := by
  have := sm_b (n := n) (f := fun i => hg_ w t p hs dr per sec gone ah age i) (lo := 0) (hi := 100) (fun i _ => cl_b _)
  unfold swg_
  omega
theorem nm_ {per i n : Int} (h1 : 1 ≤ per) (h3 : per ≤ 3) (h0 : 0 ≤ i) : (i % per = 0 → (i + per - 1) / per - 1 + 1 = i / per) ∧ (i % per ≠ 0 → (i + per - 1) / per - 1 = i / per) ∧ (if (i + 1) % per = 0 then per else (i + 1) % per) = i % per + 1 ∧ (i + 1 + per - 1) / per - 1 = i / per ∧ ((i + 1) % per ≠ 0 → (i + 1) / per = i / per) ∧ 0 ≤ i % per ∧ i % per < per ∧ 0 ≤ i / per ∧ i / per ≤ i ∧ (i < n → i / per < pl_ n per) := by
  unfold pl_
  rcases (show per = 1 ∨ per = 2 ∨ per = 3 by omega) with e | e | e <;> subst e <;> refine ⟨by omega, by omega, ?_, by omega, by omega, by omega, by omega, by omega, by omega, by omega⟩ <;> split <;> omega
theorem du_b {gh : Nat} {x : Nat} {K : XK} {h : XH} (I : Inv gh x K h) {p : Nat} {i r : Int} (hr : 0 ≤ r ∧ r < 3) : 0 ≤ du_ (wd x h) (cd_ (wd x h) p i) r ∧ du_ (wd x h) (cd_ (wd x h) p i) r ≤ 9 := by
  have hc := cd_b (wd x h) p i
  have := I.1.2.1 (3 * (cd_ (wd x h) p i).toNat + r.toNat) (by omega)
  unfold du_
  rw [show 8 + 3 * (cd_ (wd x h) p i).toNat + r.toNat = 8 + (3 * (cd_ (wd x h) p i).toNat + r.toNat) by omega]
  exact this
/-- of what card in what role: in the component's table -/
theorem c_dul {gh : Nat} {x : Nat} {K : XK} {h : XH} (I : Inv gh x K h) {p : Nat} (hp : (p : Int) < wd x h 1) {i r : Int} (hi : 0 ≤ i ∧ i ≤ 60) (hr : 0 ≤ r ∧ r < 3) : x_b (f_X2_cardAt (x + 13 + 6 + 3 * p) h (jI i) * 3 + jI r) 156 = true ∧ h.1 (x + 10) (f_X2_cardAt (x + 13 + 6 + 3 * p) h (jI i) * 3 + jI r).toNatClampNeg = jI (du_ (wd x h) (cd_ (wd x h) p i) r) := by
  have hc := cd_b (wd x h) p i
  rw [c_card I hp hi, show (3 : Int32) = jI 3 from rfl, jI_mul, jI_add]
  refine ⟨jI_b (by omega) (by omega) (by omega), ?_⟩
  rw [jI_nat (by omega) (by omega)]
  have := I.2.1.2.1 (3 * (cd_ (wd x h) p i).toNat + r.toNat) (by omega)
  rw [show (cd_ (wd x h) p i * 3 + r).toNat = 3 * (cd_ (wd x h) p i).toNat + r.toNat by omega]
  unfold du_
  rw [show 8 + 3 * (cd_ (wd x h) p i).toNat + r.toNat = 8 + (3 * (cd_ (wd x h) p i).toNat + r.toNat) by omega]
  exact this
theorem c_61 {gh : Nat} {x : Nat} {K : XK} {h : XH} (I : Inv gh x K h) {k26 : XH → Option Nat → Int32 → Nat → Int32 → Nat → Int32 → Int32 → Int32 → Int32 → Option (Int32 × XH)} {p t r : Nat} (hp : (p : Int) < wd x h 1) (c : CTx x K h r (wd x h) (970 + 851 * t) false) (hx : WTx (wd x h) (970 + 851 * t) false) {v : Nat} {hs dr per sec gone ah s i : Int} {v4 v8 : Int32} {age : Int → Int} (b1 : 0 ≤ sec ∧ sec ≤ 60) (b2 : 0 ≤ gone ∧ gone ≤ 120000) (b3 : 0 ≤ age (i / per) ∧ age (i / per) ≤ 120000) (b4 : 1 ≤ per ∧ per ≤ 3) (hi : 0 ≤ i ∧ i ≤ 60) (hF : FP x h (fg_ (wd x h) p hs dr per sec gone ah (age (i / per)) (i / per) 0 0)) :
    ∃ h2, f_X5_sumBy_61 k26 K x h (some r) (jI p) v v4 (x + 13 + 6 + 3 * p) (jI s) (jI (i % per)) v8 (jI i) = k26 h2 (some r) (jI p) v v4 (x + 13 + 6 + 3 * p) (jI (s + hg_ (wd x h) t p hs dr per sec gone ah age i)) (jI (i % per + 1)) v8 (jI (i + 1)) ∧ (∀ a, a ≠ x + 44 → a ≠ x + 45 → h2.1 a = h.1 a) ∧ h2.2 = h.2 ∧ FP x h2 (fg_ (wd x h) p hs dr per sec gone ah (age (i / per)) (i / per) 0 0) := by
  obtain ⟨-, -, -, -, -, n6, n7, n8, n9, -⟩ := nm_ (per := per) (i := i) (n := 0) b4.1 b4.2 hi.1
  obtain ⟨-, -, -, -, -, -, p7, p8, -⟩ := I.wp hp
  have hpl := pl_b p7 p8 b4.1 b4.2
  obtain ⟨d1, d2⟩ := c_dul I hp (i := i) (r := i % per) hi ⟨n6, by omega⟩
  have db := du_b I (p := p) (i := i) (r := i % per) ⟨n6, by omega⟩
  obtain ⟨h2, g1, g2, g3, g4⟩ := c_hw c hx (hF.c (ro' := i % per) (du' := du_ (wd x h) (cd_ (wd x h) p i) (i % per))) (ro := i % per) (du := du_ (wd x h) (cd_ (wd x h) p i) (i % per)) (by simp [fg_]) (by simp [fg_]) (fg_k I b1 b2 b3 b4 ⟨n6, by omega⟩ db hpl.2)
  refine ⟨h2, ?_, g2, g3, g4.c⟩
  unfold f_X5_sumBy_61
  rw [if_pos d1, d2, g1, Option.bind_some, jI_add, show (1 : Int32) = jI 1 from rfl, jI_add, jI_add]
  rfl
/-- AWAITED in the component, however it is put -/
theorem c_sum {gh : Nat} {x : Nat} {K : XK} {h : XH} (I : Inv gh x K h) {p t r : Nat} (hp : (p : Int) < wd x h 1) (c : CTx x K h r (wd x h) (970 + 851 * t) false) (hx : WTx (wd x h) (970 + 851 * t) false) {v : Nat} {hs dr per sec gone tm q od ck : Int} (hv : v ≠ x + 44) (hv2 : v ≠ x + 45) (hP : PT h v hs dr per sec gone tm q od) (hB : PB (wd x h) p hs dr per od) (b1 : 0 ≤ sec ∧ sec ≤ 60) (b2 : 0 ≤ gone ∧ gone ≤ 120000) (ha : ∀ pl, 0 ≤ pl → pl < pl_ (wd x h (290 + 81 * p + 2)) per → 0 ≤ ck - tm - pl * q ∧ ck - tm - pl * q ≤ 1199999) :
    ∃ h2, f_X5_sumBy K x h (some r) (jI p) v (jI ck) = some (jI (swg_ (wd x h) t p hs dr per sec gone (od + 1) (fun pl => (ck - tm - pl * q) / 10) (wd x h (290 + 81 * p + 2)).toNat), h2) ∧ (∀ a, a ≠ x + 44 → a ≠ x + 45 → h2.1 a = h.1 a) ∧ h2.2 = h.2 := by
  have h1 := I.w1
  obtain ⟨b3, b4, b5, b6, b7, b8, b9, b10⟩ := id hB
  have hpk := (I.pk hp).2.2.1
  obtain ⟨-, -, -, -, -, -, p7, p8, -⟩ := I.wp hp
  have hpl := pl_b p7 p8 b6 b7
  have hr := c.1
  have key := x_up0 (P := fun m i => ∀ h1 : XH, (∀ a, a ≠ x + 44 → a ≠ x + 45 → h1.1 a = h.1 a) → h1.2 = h.2 → ((i : Int) % per ≠ 0 → FP x h1 (fg_ (wd x h) p hs dr per sec gone (od + 1) ((ck - tm - (i : Int) / per * q) / 10) ((i : Int) / per) 0 0)) → ∃ h2, f_X5_sumBy_26 K x m h1 (some r) (jI p) v (jI ck) (x + 13 + 6 + 3 * p) (jI (swg_ (wd x h) t p hs dr per sec gone (od + 1) (fun pl => (ck - tm - pl * q) / 10) i)) (jI (if (i : Int) % per = 0 then per else (i : Int) % per)) (jI (((i : Int) + per - 1) / per - 1)) (jI (i : Int)) = some (jI (swg_ (wd x h) t p hs dr per sec gone (od + 1) (fun pl => (ck - tm - pl * q) / 10) (wd x h (290 + 81 * p + 2)).toNat), h2) ∧ (∀ a, a ≠ x + 44 → a ≠ x + 45 → h2.1 a = h.1 a) ∧ h2.2 = h.2) (wd x h (290 + 81 * p + 2)).toNat (by omega) (fun m h1 f1 f2 _ => by
    refine ⟨h1, ?_, f1, f2⟩
    unfold f_X5_sumBy_26
    rw [f1 _ (by omega) (by omega), hpk, if_pos ((jI_le (by omega) (by omega) (by omega) (by omega)).mpr (by omega))]) (fun m i hi ih => by
    intro h1 f1 f2 fF
    have F : Fr x h h1 := Fr.o2 f1 f2 (by decide) (by decide)
    have J := I.fr F
    have ew := F.ew
    obtain ⟨n1, n2, n3, n4, n5, n6, n7, n8, n9, n10⟩ := nm_ (per := per) (i := (i : Int)) (n := wd x h (290 + 81 * p + 2)) b6 b7 (by omega)
    have ni := n10 (by omega)
    have hai := ha ((i : Int) / per) n8 ni
    have c' : ∀ H : XH, (∀ a, a ≠ x + 44 → a ≠ x + 45 → H.1 a = h.1 a) → CTx x K H r (wd x h) (970 + 851 * t) false := fun H fH => c.c ⟨hx.1, hx.2.1⟩ (fun _ _ _ => rfl) (fun a q1 _ => fH a (by omega) (by omega)) (fun _ _ _ => rfl)
    have hP1 : PT h1 v hs dr per sec gone tm q od := by
      unfold PT
      rw [f1 v hv hv2]
      exact hP
    -- the rest, once the place is faced
    have rest : ∀ h3 : XH, (∀ a, a ≠ x + 44 → a ≠ x + 45 → h3.1 a = h.1 a) → h3.2 = h.2 → FP x h3 (fg_ (wd x h) p hs dr per sec gone (od + 1) ((ck - tm - (i : Int) / per * q) / 10) ((i : Int) / per) 0 0) → ∃ h2, f_X5_sumBy_61 (f_X5_sumBy_26 K x m) K x h3 (some r) (jI p) v (jI ck) (x + 13 + 6 + 3 * p) (jI (swg_ (wd x h) t p hs dr per sec gone (od + 1) (fun pl => (ck - tm - pl * q) / 10) i)) (jI ((i : Int) % per)) (jI ((i : Int) / per)) (jI (i : Int)) = some (jI (swg_ (wd x h) t p hs dr per sec gone (od + 1) (fun pl => (ck - tm - pl * q) / 10) (wd x h (290 + 81 * p + 2)).toNat), h2) ∧ (∀ a, a ≠ x + 44 → a ≠ x + 45 → h2.1 a = h.1 a) ∧ h2.2 = h.2 := by
      intro h3 f3 g3 F3
      have FF : Fr x h h3 := Fr.o2 f3 g3 (by decide) (by decide)
      have e3 := FF.ew
      have st := c_61 (I.fr FF) (k26 := f_X5_sumBy_26 K x m) (p := p) (t := t) (r := r) (by rw [e3]; exact hp) (by rw [e3]; exact c' h3 f3) (by rw [e3]; exact hx) (v := v) (hs := hs) (dr := dr) (per := per) (sec := sec) (gone := gone) (ah := od + 1) (s := swg_ (wd x h) t p hs dr per sec gone (od + 1) (fun pl => (ck - tm - pl * q) / 10) i) (i := (i : Int)) (v4 := jI ck) (v8 := jI ((i : Int) / per)) (age := fun pl => (ck - tm - pl * q) / 10) b1 b2 (by show 0 ≤ (ck - tm - (i : Int) / per * q) / 10 ∧ (ck - tm - (i : Int) / per * q) / 10 ≤ 120000; omega) ⟨b6, b7⟩ (by omega) (by rw [e3]; exact F3)
      rw [e3] at st
      obtain ⟨h4, s1, s2, s3, s4⟩ := st
      obtain ⟨h2, k1, k2, k3⟩ := ih h4 (fun a q1 q2 => by rw [s2 a q1 q2, f3 a q1 q2]) (by rw [s3, g3]) (fun e => by
        rw [show ((i + 1 : Nat) : Int) = (i : Int) + 1 by omega] at e ⊢
        rw [n5 e]
        exact s4)
      refine ⟨h2, ?_, k2, k3⟩
      rw [s1, ← k1]
      rw [show ((i + 1 : Nat) : Int) = (i : Int) + 1 by omega, n3, n4]
      rfl
    unfold f_X5_sumBy_26
    rw [f1 _ (by omega) (by omega), hpk, if_neg (fun e => absurd ((jI_le (by omega) (by omega) (by omega) (by omega)).mp e) (by omega)), hP1.2.2.1]
    by_cases e : (i : Int) % per = 0
    · rw [if_pos e, if_neg (fun e => absurd ((jI_lt (by omega) (by omega) (by omega) (by omega)).mp e) (by omega)), show (1 : Int32) = jI 1 from rfl, jI_add, n1 e]
      have fc := c_face J (p := p) (by rw [ew]; exact hp) (pl := (i : Int) / per) (ck := ck) hv hP1 (by rw [ew]; exact hB) (by rw [ew]; exact ⟨n8, ni⟩) (by omega) 0 0
      rw [ew] at fc
      obtain ⟨h3, g1, g2, g3, g4⟩ := fc
      obtain ⟨h2, k1, k2, k3⟩ := rest h3 (fun a q1 q2 => by rw [g2 a q1, f1 a q1 q2]) (by rw [g3, f2]) g4
      refine ⟨h2, ?_, k2, k3⟩
      rw [g1, Option.bind_some]
      rw [e] at k1
      exact k1
    · rw [if_neg e, if_pos ((jI_lt (by omega) (by omega) (by omega) (by omega)).mpr (by omega)), n2 e]
      exact rest h1 f1 f2 (fF e))
  obtain ⟨h2, k1, k2, k3⟩ := key h (fun _ _ _ => rfl) rfl (fun e => absurd (by rw [show ((0 : Nat) : Int) = 0 by rfl, Int.zero_emod]) e)
  refine ⟨h2, ?_, k2, k3⟩
  unfold f_X5_sumBy
  rw [if_pos (jI_b (by omega) (by omega) (by omega)), nat_ (by omega), hP.2.2.1]
  have z1 : (if ((0 : Nat) : Int) % per = 0 then per else ((0 : Nat) : Int) % per) = per := if_pos (by rw [show ((0 : Nat) : Int) = 0 by rfl, Int.zero_emod])
  have z2 : (((0 : Nat) : Int) + per - 1) / per - 1 = -1 := by
    rcases (show per = 1 ∨ per = 2 ∨ per = 3 by omega) with e | e | e <;> subst e <;> decide
  rw [z1, z2] at k1
  exact k1
