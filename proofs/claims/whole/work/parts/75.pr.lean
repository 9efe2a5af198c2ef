/-! ===== AWAITED as if put; best per ===== -/
theorem old_c {w : Nat → Int} {p : Nat} {hs dr a b : Int} (ha : ∀ q : Nat, (q : Int) < w 1 → w (290 + 81 * q + 3) < a) (hb : ∀ q : Nat, (q : Int) < w 1 → w (290 + 81 * q + 3) < b) : old_ w p hs dr a = old_ w p hs dr b := by
  unfold old_
  refine sm_c fun q hq => ?_
  have h1 := ha q (by omega)
  have h2 := hb q (by omega)
  by_cases c : q ≠ p ∧ 0 ≤ pa_ w q hs dr
  · rw [if_pos ⟨c.1, h1, c.2⟩, if_pos ⟨c.1, h2, c.2⟩]
  · rw [if_neg (fun e => c ⟨e.1, e.2.2⟩), if_neg (fun e => c ⟨e.1, e.2.2⟩)]
theorem swg_a {w : Nat → Int} {t p n : Nat} {hs dr per sec gone a b : Int} {age : Int → Int} (ha : ∀ q : Nat, (q : Int) < w 1 → w (290 + 81 * q + 3) < a) (hb : ∀ q : Nat, (q : Int) < w 1 → w (290 + 81 * q + 3) < b) : swg_ w t p hs dr per sec gone a age n = swg_ w t p hs dr per sec gone b age n := by
  unfold swg_
  refine sm_c fun i hi => ?_
  have e : ∀ ag pl ro du, fg_ w p hs dr per sec gone a ag pl ro du = fg_ w p hs dr per sec gone b ag pl ro du := fun ag pl ro du => by
    funext s
    unfold fg_
    rw [old_c ha hb]
  unfold hg_
  rw [e]
def si_ (w : Nat → Int) (t p : Nat) (hs per sec : Int) : Int := if pl_ (w (290 + 81 * p + 2)) per ≤ w (164 + 21 * hs.toNat) then swg_ w t p hs 0 per sec 0 1000 (fun _ => 0) (w (290 + 81 * p + 2)).toNat else -1
theorem si_b {w : Nat → Int} {t p : Nat} {hs per sec : Int} (h : w (290 + 81 * p + 2) ≤ 52) : -1 ≤ si_ w t p hs per sec ∧ si_ w t p hs per sec ≤ 5200 := by
  unfold si_
  have b := swg_b (w := w) (t := t) (p := p) (hs := hs) (dr := 0) (per := per) (sec := sec) (gone := 0) (ah := 1000) (age := fun _ => 0) (n := (w (290 + 81 * p + 2)).toNat)
  split <;> omega
theorem c_sif {gh : Nat} {x : Nat} {K : XK} {h : XH} (I : Inv gh x K h) {p t r : Nat} (hp : (p : Int) < wd x h 1) (c : CTx x K h r (wd x h) (970 + 851 * t) false) (hx : WTx (wd x h) (970 + 851 * t) false) {hs per sec : Int} (b1 : 0 ≤ hs ∧ hs < wd x h 0) (b2 : 1 ≤ per ∧ per ≤ 3) (b3 : 1 ≤ sec ∧ sec ≤ 60) :
    ∃ h2, f_X5_sumIfPut K x h (some r) (jI p) (jI hs) (jI per) (jI sec) = some (jI (si_ (wd x h) t p hs per sec), h2) ∧ (∀ a, a ≠ x + 44 → a ≠ x + 45 → a ≠ x + 47 → h2.1 a = h.1 a) ∧ h2.2 = h.2 := by
  have h1 := I.w1
  have h0 := I.w0
  have h6 := I.w6
  have h7 := I.w7
  have cr := c.1
  obtain ⟨-, -, -, -, -, -, p7, p8, -⟩ := I.wp hp
  have hpl := pl_b p7 p8 b2.1 b2.2
  have hd := I.dr b1
  have cp := c_pby I hp b2.1 b2.2
  have e2 : h.1 (x + 11) hs.toNat = jI (wd x h (164 + 21 * hs.toNat)) := (I.2.1.2.2.1 hs.toNat (by omega)).1
  have e6 : h.1 (x + 9) 6 = jI (wd x h 7) := I.2.1.1.2.2.1
  have e7 : h.1 (x + 9) 7 = jI (wd x h 6) := I.2.1.1.2.2.2.1
  unfold f_X5_sumIfPut si_
  rw [if_pos (jI_b (by omega) (by omega) (by omega)), nat_ (by omega), cp, Option.bind_some, if_pos (jI_b (by omega) (by omega) (by omega)), jI_nat (by omega) (by omega), e2]
  by_cases cc : pl_ (wd x h (290 + 81 * p + 2)) per ≤ wd x h (164 + 21 * hs.toNat)
  · rw [if_pos ((jI_le (by omega) (by omega) (by omega) (by omega)).mpr cc), if_pos cc]
    simp (disch := omega) only [f_X4_begin, f_X4_touchFrom, xl_, gi_n, e6, e7]
    generalize hH : x_i (x_i (x_i (x_i (x_i (x_i (x_i (x_i h (x + 47) 0 (jI hs)) (x + 47) 1 0) (x + 47) 2 (jI per)) (x + 47) 3 (jI sec)) (x + 47) 4 0) (x + 47) 7 (jI (wd x h 7))) (x + 47) 5 (jI (wd x h 6))) (x + 47) 6 0 = H
    have fH : ∀ a, a ≠ x + 47 → H.1 a = h.1 a := fun a ha => by
      rw [← hH]
      simp only [gi_n ha]
    have gH : H.2 = h.2 := by rw [← hH]; rfl
    have F : Fr x h H := Fr.o1 fH gH (by decide)
    have ew := F.ew
    have hP : PT H (x + 47) hs 0 per sec 0 (wd x h 6) 0 (wd x h 7) := by
      rw [← hH]
      unfold PT
      refine ⟨?_, ?_, ?_, ?_, ?_, ?_, ?_, ?_⟩ <;> simp [gi_] <;> rfl
    have c' : CTx x K H r (wd x h) (970 + 851 * t) false := c.c ⟨hx.1, hx.2.1⟩ (fun _ _ _ => rfl) (fun a q1 _ => fH a (by omega)) (fun _ _ _ => rfl)
    have s := c_sum (I.fr F) (p := p) (t := t) (r := r) (by rw [ew]; exact hp) (by rw [ew]; exact c') (by rw [ew]; exact hx) (v := x + 47) (ck := wd x h 6) (by omega) (by omega) hP (by rw [ew]; exact ⟨b1.1, b1.2, by omega, b2.1, b2.2, by omega, by omega, by omega⟩) (by omega) (by omega) (fun pl q1 q2 => by rw [Int.mul_zero]; omega)
    rw [ew] at s
    obtain ⟨h2, s1, s2, s3⟩ := s
    refine ⟨h2, ?_, fun a q1 q2 q3 => by rw [s2 a q1 q2, fH a q3], by rw [s3, gH]⟩
    have ea : (fun pl : Int => (wd x h 6 - wd x h 6 - pl * 0) / 10) = fun _ => 0 := by
      funext pl
      rw [Int.mul_zero]
      omega
    rw [ea] at s1
    rw [s1, Option.bind_some, swg_a (a := wd x h 7 + 1) (b := 1000) (fun q hq => by have := (I.wp hq).2.2.2.2.2.2.2.2.2.1; omega) (fun q hq => by have := (I.wp hq).2.2.2.2.2.2.2.2.2.1; omega)]
  · rw [if_neg (fun q => cc ((jI_le (by omega) (by omega) (by omega) (by omega)).mp q)), if_neg cc]
    exact ⟨h, rfl, fun _ _ _ _ => rfl, rfl⟩
theorem r_sif {gh : Nat} {x : Nat} {K : XK} {h : XH} (I : Inv gh x K h) {p t : Nat} (hp : (p : Int) < wd x h 1) (ht : (t : Int) < wd x h 2) {hs per sec : Int} (b1 : 0 ≤ hs ∧ hs < wd x h 0) (b2 : 1 ≤ per ∧ per ≤ 3) (b3 : 1 ≤ sec ∧ sec ≤ 60) :
    ∃ h2, f_X12_awaitedAt x h (jI t) (jI p) (jI hs) (jI per) (jI sec) = some (jI (si_ (wd x h) t p hs per sec), h2) ∧ (∀ a, a ≠ x + 69 → a ≠ x + 70 → h2.1 a = h.1 a) ∧ h2.2 = h.2 := by
  have h1 := I.w1
  obtain ⟨-, -, -, -, -, -, p7, p8, -⟩ := I.wp hp
  have hpl := pl_b p7 p8 b2.1 b2.2
  have hd := I.dr b1
  have o2 : f_X12_of x h (jI p) 2 = some (jI (wd x h (290 + 81 * p + 2))) := of_2 (by omega)
  unfold f_X12_awaitedAt si_
  rw [o2, Option.bind_some, r_pf p7 p8 b2.1 b2.2, Option.bind_some, r_drs I b1, Option.bind_some]
  by_cases cc : pl_ (wd x h (290 + 81 * p + 2)) per ≤ wd x h (164 + 21 * hs.toNat)
  · rw [if_pos ((jI_le (by omega) (by omega) (by omega) (by omega)).mpr cc), if_pos cc]
    have key := x_up0 (P := fun m i => ∀ h1 : XH, (∀ a, a ≠ x + 69 → a ≠ x + 70 → h1.1 a = h.1 a) → h1.2 = h.2 → ∃ h2, f_X12_awaitedAt_27 x m h1 (jI t) (jI p) (jI hs) (jI per) (jI sec) (jI (swg_ (wd x h) t p hs 0 per sec 0 1000 (fun _ => 0) i)) (jI (i : Int)) = some (jI (swg_ (wd x h) t p hs 0 per sec 0 1000 (fun _ => 0) (wd x h (290 + 81 * p + 2)).toNat), h2) ∧ (∀ a, a ≠ x + 69 → a ≠ x + 70 → h2.1 a = h.1 a) ∧ h2.2 = h.2) (wd x h (290 + 81 * p + 2)).toNat (by omega) (fun m h1 f1 f2 => by
      have F : Fr x h h1 := Fr.o2 f1 f2 (by decide) (by decide)
      have o2 : f_X12_of x h1 (jI p) 2 = some (jI (wd x h1 (290 + 81 * p + 2))) := of_2 (by omega)
      rw [F.ew] at o2
      refine ⟨h1, ?_, f1, f2⟩
      unfold f_X12_awaitedAt_27
      rw [o2, Option.bind_some, if_pos ((jI_le (by omega) (by omega) (by omega) (by omega)).mpr (by omega))]) (fun m i hi ih => by
      intro h1 f1 f2
      have F : Fr x h h1 := Fr.o2 f1 f2 (by decide) (by decide)
      have J := I.fr F
      have ew := F.ew
      have o2 : f_X12_of x h1 (jI p) 2 = some (jI (wd x h1 (290 + 81 * p + 2))) := of_2 (by omega)
      have r1 := r_one J (p := p) (t := t) (by rw [ew]; exact hp) (by rw [ew]; exact ht) (hs := hs) (dr := 0) (per := per) (sec := sec) (gone := 0) (ah := 1000) (i := (i : Int)) (age := fun _ => 0) (by rw [ew]; exact b1) (by omega) b2 (by rw [ew]; omega) (by omega) (by rw [ew]; omega) (by omega) (by omega) (by omega)
      rw [ew] at o2 r1
      obtain ⟨h3, h4, g1, g2, g3, g4, g5, g6, g7⟩ := r1
      obtain ⟨h2, k1, k2, k3⟩ := ih h4 (fun a q1 q2 => by rw [g6 a q1 q2, f1 a q1 q2]) (by rw [g7, f2])
      refine ⟨h2, ?_, k2, k3⟩
      unfold f_X12_awaitedAt_27
      rw [o2, Option.bind_some, if_neg (fun e => absurd ((jI_le (by omega) (by omega) (by omega) (by omega)).mp e) (by omega)), show (0 : Int32) = jI 0 from rfl, show (1000 : Int32) = jI 1000 from rfl, g1, Option.bind_some, g3, Option.bind_some, show (1 : Int32) = jI 1 from rfl, jI_add, jI_add]
      exact k1)
    exact key h (fun _ _ _ => rfl) rfl
  · rw [if_neg (fun q => cc ((jI_le (by omega) (by omega) (by omega) (by omega)).mp q)), if_neg cc]
    exact ⟨h, rfl, fun _ _ _ => rfl, rfl⟩
def ea_ (n s k : Int) : Int := if s / pl_ n k < 60 then s / pl_ n k else 60
def pv_ (w : Nat → Int) (t p : Nat) (hs s k : Int) : Int := if ea_ (w (290 + 81 * p + 2)) s k < 1 then -1 else si_ w t p hs k (ea_ (w (290 + 81 * p + 2)) s k)
theorem pv_b {w : Nat → Int} {t p : Nat} {hs s k : Int} (h : w (290 + 81 * p + 2) ≤ 52) : -1 ≤ pv_ w t p hs s k ∧ pv_ w t p hs s k ≤ 5200 := by
  unfold pv_
  split
  · omega
  · exact si_b h
def pe_ (f : Int → Int) : Nat → Int × Int
  | 0 => (-1, -1)
  | n + 1 => if (pe_ f n).2 < f (n + 1) then ((n : Int) + 1, f (n + 1)) else pe_ f n
theorem pe_b {f : Int → Int} (hf : ∀ k, -1 ≤ f k ∧ f k ≤ 5200) : ∀ n : Nat, -1 ≤ (pe_ f n).1 ∧ (pe_ f n).1 ≤ n ∧ -1 ≤ (pe_ f n).2 ∧ (pe_ f n).2 ≤ 5200 := by
  intro n
  induction n with
  | zero => simp [pe_]
  | succ n ih =>
    have := hf (n + 1)
    unfold pe_
    split
    · exact ⟨by show -1 ≤ (n : Int) + 1; omega, by show (n : Int) + 1 ≤ ((n + 1 : Nat) : Int); omega, this.1, this.2⟩
    · omega
theorem ea_c {n s k : Int} {h : XH} (h1 : 3 ≤ n) (h2 : n ≤ 52) (h3 : 1 ≤ k) (h4 : k ≤ 3) (h5 : 1 ≤ s ∧ s ≤ 9999) : f_J9_min_7cf53 h (jI s / jI (pl_ n k)) (jI 60) = jI (ea_ n s k) ∧ f_J9_min_7cf53 h (jI 60) (jI s / jI (pl_ n k)) = jI (ea_ n s k) ∧ 0 ≤ ea_ n s k ∧ ea_ n s k ≤ 60 := by
  have b := pl_b h1 h2 h3 h4
  have q0 : 0 ≤ s / pl_ n k := Int.ediv_nonneg (by omega) (by omega)
  have q1 : s / pl_ n k ≤ s := Int.ediv_le_self _ (by omega)
  rw [jI_div (by omega) (by omega) (by omega) (by omega)]
  unfold f_J9_min_7cf53 ea_
  generalize s / pl_ n k = u at q0 q1
  have l1 : jI 60 < jI u ↔ 60 < u := jI_lt (by omega) (by omega) (by omega) (by omega)
  have l2 : jI u < jI 60 ↔ u < 60 := jI_lt (by omega) (by omega) (by omega) (by omega)
  simp only [l1, l2]
  by_cases c : u < 60
  · rw [if_neg (by omega), if_pos c, if_pos c]
    exact ⟨rfl, rfl, by omega, by omega⟩
  · rw [if_neg c, if_neg c]
    by_cases d : 60 < u
    · rw [if_pos d]
      exact ⟨rfl, rfl, by omega, by omega⟩
    · rw [if_neg d, show u = 60 by omega]
      exact ⟨rfl, rfl, by omega, by omega⟩
theorem Fr.o3 {x : Nat} {h h2 : XH} {o1 o2 o3 : Nat} (f : ∀ a, a ≠ x + o1 → a ≠ x + o2 → a ≠ x + o3 → h2.1 a = h.1 a) (e : h2.2 = h.2) (m1 : o1 ∈ sc_) (m2 : o2 ∈ sc_) (m3 : o3 ∈ sc_) : Fr x h h2 := by
  have q : ∀ o, o ∈ sc_ → o ≠ 1 ∧ o ≠ 64 := by decide
  have a1 := q o1 m1
  have a2 := q o2 m2
  have a3 := q o3 m3
  have e1 : h2.1 (x + 1) = h.1 (x + 1) := f _ (by omega) (by omega) (by omega)
  have e64 : h2.1 (x + 64) = h.1 (x + 64) := f _ (by omega) (by omega) (by omega)
  exact ⟨fun a h1 _ _ => f a (h1 o1 m1) (h1 o2 m2) (h1 o3 m3), by rw [e1], by rw [e1], by rw [e64], by rw [e64], by rw [e64], by rw [e]⟩
theorem c_p49 {gh : Nat} {x : Nat} {K : XK} {h : XH} (I : Inv gh x K h) {p t : Nat} (hp : (p : Int) < wd x h 1) (ht : (t : Int) < wd x h 2) {hs s : Int} {v5 : Int32} (b1 : 0 ≤ hs ∧ hs < wd x h 0) (b3 : 1 ≤ s ∧ s ≤ 9999) :
    ∃ h2, f_X11_per_49 K x x_FU h (jI t) (jI p) (jI hs) (jI s) v5 (jI (-1)) (jI (-1)) (jI 1) = some (.inr (if v5 = 0 then jI (pe_ (pv_ (wd x h) t p hs s) 3).1 else jI (pe_ (pv_ (wd x h) t p hs s) 3).2), h2) ∧ (∀ a, a ≠ x + 44 → a ≠ x + 45 → a ≠ x + 47 → h2.1 a = h.1 a) ∧ h2.2 = h.2 := by
  have w1 := I.w1
  have w2 := I.w2
  obtain ⟨r, hr, ct⟩ := I.law ht
  have hx := I.wl ht
  have rr := ct.1
  obtain ⟨-, -, -, -, -, -, p7, p8, -⟩ := I.wp hp
  have key := x_up0 (P := fun m n => ∀ h1 : XH, (∀ a, a ≠ x + 44 → a ≠ x + 45 → a ≠ x + 47 → h1.1 a = h.1 a) → h1.2 = h.2 → ∃ h2, f_X11_per_49 K x m h1 (jI t) (jI p) (jI hs) (jI s) v5 (jI (pe_ (pv_ (wd x h) t p hs s) n).1) (jI (pe_ (pv_ (wd x h) t p hs s) n).2) (jI ((n : Int) + 1)) = some (.inr (if v5 = 0 then jI (pe_ (pv_ (wd x h) t p hs s) 3).1 else jI (pe_ (pv_ (wd x h) t p hs s) 3).2), h2) ∧ (∀ a, a ≠ x + 44 → a ≠ x + 45 → a ≠ x + 47 → h2.1 a = h.1 a) ∧ h2.2 = h.2) 3 (by omega) (fun m h1 f1 f2 => by
    refine ⟨h1, ?_, f1, f2⟩
    unfold f_X11_per_49
    rw [if_pos (by decide)]) (fun m n hn ih => by
    intro h1 f1 f2
    have F : Fr x h h1 := Fr.o3 f1 f2 (by decide) (by decide) (by decide)
    have ew := F.ew
    have J := I.fr F
    have b := pe_b (f := pv_ (wd x h) t p hs s) (fun k => pv_b p8) n
    have vb := pv_b (w := wd x h) (t := t) (p := p) (hs := hs) (s := s) (k := (n : Int) + 1) p8
    have cp := c_pby J (p := p) (by rw [ew]; exact hp) (per := (n : Int) + 1) (by omega) (by omega)
    rw [ew] at cp
    have hpl := pl_b p7 p8 (per := (n : Int) + 1) (by omega) (by omega)
    have ec := ea_c (h := h1) p7 p8 (k := (n : Int) + 1) (by omega) (by omega) b3
    have step : ∀ h3 : XH, (∀ a, a ≠ x + 44 → a ≠ x + 45 → a ≠ x + 47 → h3.1 a = h.1 a) → h3.2 = h.2 → ∃ h2, f_X11_per_125 (f_X11_per_49 K x m) K x h3 (jI t) (jI p) (jI hs) (jI s) v5 (jI (pe_ (pv_ (wd x h) t p hs s) n).1) (jI (pe_ (pv_ (wd x h) t p hs s) n).2) (jI ((n : Int) + 1)) (jI (pv_ (wd x h) t p hs s ((n : Int) + 1))) = some (.inr (if v5 = 0 then jI (pe_ (pv_ (wd x h) t p hs s) 3).1 else jI (pe_ (pv_ (wd x h) t p hs s) 3).2), h2) ∧ (∀ a, a ≠ x + 44 → a ≠ x + 45 → a ≠ x + 47 → h2.1 a = h.1 a) ∧ h2.2 = h.2 := by
      intro h3 f3 g3
      obtain ⟨h2, k1, k2, k3⟩ := ih h3 f3 g3
      refine ⟨h2, ?_, k2, k3⟩
      rw [← k1]
      unfold f_X11_per_125
      rw [show jI ((n : Int) + 1) + 1 = jI (((n + 1 : Nat) : Int) + 1) by rw [show (1 : Int32) = jI 1 from rfl, jI_add]; rfl]
      conv => rhs; unfold pe_
      by_cases c : (pe_ (pv_ (wd x h) t p hs s) n).2 < pv_ (wd x h) t p hs s ((n : Int) + 1)
      · rw [if_pos c, if_neg (fun q => absurd ((jI_le (by omega) (by omega) (by omega) (by omega)).mp q) (by omega)), if_neg (fun q => absurd ((jI_le (by omega) (by omega) (by omega) (by omega)).mp q) (by omega))]
      · rw [if_neg c, if_pos ((jI_le (by omega) (by omega) (by omega) (by omega)).mpr (by omega)), if_pos ((jI_le (by omega) (by omega) (by omega) (by omega)).mpr (by omega))]
    rw [f_X11_per_49, if_neg (show ¬ (3 : Int32) < jI ((n : Int) + 1) from fun q => absurd ((jI_lt (a := 3) (by omega) (by omega) (by omega) (by omega)).mp q) (by omega)), if_pos (jI_b (by omega) (by omega) (by omega)), nat_ (by omega), cp, Option.bind_some, if_pos (show (1 : Int32) ≤ jI (pl_ (wd x h (290 + 81 * p + 2)) ((n : Int) + 1)) from (jI_le (a := 1) (by omega) (by omega) (by omega) (by omega)).mpr (by omega)), if_neg (j_ne0 (by omega) (by omega) (by omega)), show (60 : Int32) = jI 60 from rfl, ec.1]
    unfold f_X11_per_91
    by_cases c : ea_ (wd x h (290 + 81 * p + 2)) s ((n : Int) + 1) < 1
    · rw [if_neg (show ¬ (1 : Int32) ≤ jI (ea_ (wd x h (290 + 81 * p + 2)) s ((n : Int) + 1)) from fun q => absurd ((jI_le (a := 1) (by omega) (by omega) (by omega) (by omega)).mp q) (by omega)), m1_]
      have e : pv_ (wd x h) t p hs s ((n : Int) + 1) = -1 := if_pos c
      have st := step h1 f1 f2
      rw [e] at st
      exact st
    · have c' : CTx x K h1 r (wd x h) (970 + 851 * t) false := ct.c ⟨hx.1, hx.2.1⟩ (fun _ _ _ => rfl) (fun a q1 _ => f1 a (by omega) (by omega) (by omega)) (fun _ _ _ => rfl)
      have s1 := c_sif J (p := p) (t := t) (r := r) (by rw [ew]; exact hp) (by rw [ew]; exact c') (by rw [ew]; exact hx) (hs := hs) (per := (n : Int) + 1) (sec := ea_ (wd x h (290 + 81 * p + 2)) s ((n : Int) + 1)) (by rw [ew]; exact b1) (by omega) (by omega)
      rw [ew] at s1
      obtain ⟨h3, s1, s2, s3⟩ := s1
      have e : pv_ (wd x h) t p hs s ((n : Int) + 1) = si_ (wd x h) t p hs ((n : Int) + 1) (ea_ (wd x h (290 + 81 * p + 2)) s ((n : Int) + 1)) := if_neg c
      rw [if_pos (show (1 : Int32) ≤ jI (ea_ (wd x h (290 + 81 * p + 2)) s ((n : Int) + 1)) from (jI_le (a := 1) (by omega) (by omega) (by omega) (by omega)).mpr (by omega)), if_pos (jI_b (by omega) (by omega) (by omega)), nat_ (by omega), show h1.2.2 (x + 14) t = some r by rw [f2]; exact hr, s1, Option.bind_some, ← e]
      exact step h3 (fun a q1 q2 q3 => by rw [s2 a q1 q2 q3, f1 a q1 q2 q3]) (by rw [s3, f2]))
  exact key h (fun _ _ _ _ => rfl) rfl
theorem r_p79 {gh : Nat} {x : Nat} {K : XK} {h : XH} (I : Inv gh x K h) {p t : Nat} (hp : (p : Int) < wd x h 1) (ht : (t : Int) < wd x h 2) {hs s : Int} {v5 : Int32} (b1 : 0 ≤ hs ∧ hs < wd x h 0) (b3 : 1 ≤ s ∧ s ≤ 9999) :
    ∃ h2, f_X12_per_79 x x_FU h (jI t) (jI p) (jI hs) (jI s) v5 (jI (-1)) (jI (-1)) (jI 1) = some (if v5 = 0 then jI (pe_ (pv_ (wd x h) t p hs s) 3).1 else jI (pe_ (pv_ (wd x h) t p hs s) 3).2, h2) ∧ (∀ a, a ≠ x + 69 → a ≠ x + 70 → h2.1 a = h.1 a) ∧ h2.2 = h.2 := by
  have w1 := I.w1
  have w2 := I.w2
  obtain ⟨-, -, -, -, -, -, p7, p8, -⟩ := I.wp hp
  have key := x_up0 (P := fun m n => ∀ h1 : XH, (∀ a, a ≠ x + 69 → a ≠ x + 70 → h1.1 a = h.1 a) → h1.2 = h.2 → ∃ h2, f_X12_per_79 x m h1 (jI t) (jI p) (jI hs) (jI s) v5 (jI (pe_ (pv_ (wd x h) t p hs s) n).1) (jI (pe_ (pv_ (wd x h) t p hs s) n).2) (jI ((n : Int) + 1)) = some (if v5 = 0 then jI (pe_ (pv_ (wd x h) t p hs s) 3).1 else jI (pe_ (pv_ (wd x h) t p hs s) 3).2, h2) ∧ (∀ a, a ≠ x + 69 → a ≠ x + 70 → h2.1 a = h.1 a) ∧ h2.2 = h.2) 3 (by omega) (fun m h1 f1 f2 => by
    refine ⟨h1, ?_, f1, f2⟩
    unfold f_X12_per_79
    rw [if_pos (by decide)]) (fun m n hn ih => by
    intro h1 f1 f2
    have F : Fr x h h1 := Fr.o2 f1 f2 (by decide) (by decide)
    have ew := F.ew
    have J := I.fr F
    have b := pe_b (f := pv_ (wd x h) t p hs s) (fun k => pv_b p8) n
    have vb := pv_b (w := wd x h) (t := t) (p := p) (hs := hs) (s := s) (k := (n : Int) + 1) p8
    have o2 : f_X12_of x h1 (jI p) 2 = some (jI (wd x h1 (290 + 81 * p + 2))) := of_2 (by omega)
    rw [ew] at o2
    have hpl := pl_b p7 p8 (per := (n : Int) + 1) (by omega) (by omega)
    have ec := ea_c (h := h1) p7 p8 (k := (n : Int) + 1) (by omega) (by omega) b3
    have step : ∀ h3 : XH, (∀ a, a ≠ x + 69 → a ≠ x + 70 → h3.1 a = h.1 a) → h3.2 = h.2 → ∃ h2, f_X12_per_127 (f_X12_per_79 x m) x h3 (jI t) (jI p) (jI hs) (jI s) v5 (jI (pe_ (pv_ (wd x h) t p hs s) n).1) (jI (pe_ (pv_ (wd x h) t p hs s) n).2) (jI ((n : Int) + 1)) (jI (pv_ (wd x h) t p hs s ((n : Int) + 1))) = some (if v5 = 0 then jI (pe_ (pv_ (wd x h) t p hs s) 3).1 else jI (pe_ (pv_ (wd x h) t p hs s) 3).2, h2) ∧ (∀ a, a ≠ x + 69 → a ≠ x + 70 → h2.1 a = h.1 a) ∧ h2.2 = h.2 := by
      intro h3 f3 g3
      obtain ⟨h2, k1, k2, k3⟩ := ih h3 f3 g3
      refine ⟨h2, ?_, k2, k3⟩
      rw [← k1]
      unfold f_X12_per_127
      rw [show jI ((n : Int) + 1) + 1 = jI (((n + 1 : Nat) : Int) + 1) by rw [show (1 : Int32) = jI 1 from rfl, jI_add]; rfl]
      conv => rhs; unfold pe_
      by_cases c : (pe_ (pv_ (wd x h) t p hs s) n).2 < pv_ (wd x h) t p hs s ((n : Int) + 1)
      · rw [if_pos c, if_pos ((jI_lt (by omega) (by omega) (by omega) (by omega)).mpr (by omega)), if_pos ((jI_lt (by omega) (by omega) (by omega) (by omega)).mpr (by omega))]
      · rw [if_neg c, if_neg (fun q => absurd ((jI_lt (by omega) (by omega) (by omega) (by omega)).mp q) (by omega)), if_neg (fun q => absurd ((jI_lt (by omega) (by omega) (by omega) (by omega)).mp q) (by omega))]
    rw [f_X12_per_79, if_neg (show ¬ (3 : Int32) < jI ((n : Int) + 1) from fun q => absurd ((jI_lt (a := 3) (by omega) (by omega) (by omega) (by omega)).mp q) (by omega)), o2, Option.bind_some, r_pf p7 p8 (by omega) (by omega), Option.bind_some, if_neg (j_ne0 (by omega) (by omega) (by omega)), show (60 : Int32) = jI 60 from rfl, ec.2.1, xl_]
    by_cases c : ea_ (wd x h (290 + 81 * p + 2)) s ((n : Int) + 1) < 1
    · rw [if_neg (show ¬ (1 : Int32) ≤ jI (ea_ (wd x h (290 + 81 * p + 2)) s ((n : Int) + 1)) from fun q => absurd ((jI_le (a := 1) (by omega) (by omega) (by omega) (by omega)).mp q) (by omega)), m1_]
      have e : pv_ (wd x h) t p hs s ((n : Int) + 1) = -1 := if_pos c
      have st := step h1 f1 f2
      rw [e] at st
      exact st
    · have s1 := r_sif J (p := p) (t := t) (by rw [ew]; exact hp) (by rw [ew]; exact ht) (hs := hs) (per := (n : Int) + 1) (sec := ea_ (wd x h (290 + 81 * p + 2)) s ((n : Int) + 1)) (by rw [ew]; exact b1) (by omega) (by omega)
      rw [ew] at s1
      obtain ⟨h3, s1, s2, s3⟩ := s1
      have e : pv_ (wd x h) t p hs s ((n : Int) + 1) = si_ (wd x h) t p hs ((n : Int) + 1) (ea_ (wd x h (290 + 81 * p + 2)) s ((n : Int) + 1)) := if_neg c
      rw [if_pos (show (1 : Int32) ≤ jI (ea_ (wd x h (290 + 81 * p + 2)) s ((n : Int) + 1)) from (jI_le (a := 1) (by omega) (by omega) (by omega) (by omega)).mpr (by omega)), s1, Option.bind_some, ← e]
      exact step h3 (fun a q1 q2 => by rw [s2 a q1 q2, f1 a q1 q2]) (by rw [s3, f2]))
  exact key h (fun _ _ _ => rfl) rfl
theorem P_row30 {gh : Nat} {x : Nat} {K : XK} {h : XH} (I : Inv gh x K h) (a1 a2 a3 a4 a5 : Int32) : ∃ h', f_row30 K x h a1 a2 a3 a4 a5 = some h' ∧ Inv gh x K h' := by
  obtain ⟨z1, z1a, z1b, rfl⟩ := jI_ex a1
  obtain ⟨z2, z2a, z2b, rfl⟩ := jI_ex a2
  obtain ⟨z3, z3a, z3b, rfl⟩ := jI_ex a3
  obtain ⟨z4, z4a, z4b, rfl⟩ := jI_ex a4
  have e0 : ∀ b1 b2 b3 b4 b5, f_row30 K x h b1 b2 b3 b4 b5 = rc_ x (x_lb (f_X11_per K x h b1 b2 b3 b4 (if b5 = 0 then 0 else 1)) [0, 1] (fun v h => x_l h (x + 76) (0 : Int32).toNatClampNeg v.toInt64)) (fun h => f_X12_per x h b1 b2 b3 b4 (if b5 = 0 then 0 else 1)) := fun _ _ _ _ _ => rfl
  rw [e0]
  generalize (if a5 = 0 then (0 : Int32) else 1) = v5
  have w0 := I.w0
  have w1 := I.w1
  have w2 := I.w2
  have g0 : jI z4 < (1 : Int32) ↔ z4 < 1 := jI_lt (b := 1) z4a z4b (by omega) (by omega)
  have g1 : jI z4 ≤ (9999 : Int32) ↔ z4 ≤ 9999 := jI_le (b := 9999) z4a z4b (by omega) (by omega)
  have g2 : (9999 : Int32) < jI z4 ↔ 9999 < z4 := jI_lt (a := 9999) (by omega) (by omega) z4a z4b
  have i1 : ∀ h : XH, (if f_X12_in h (jI z4) 1 9999 = 0 then (1 : Int32) else 0) = if 1 ≤ z4 ∧ z4 ≤ 9999 then jI 0 else jI 1 := fun h => by
    unfold f_X12_in
    simp only [g0, g2]
    by_cases c : z4 < 1
    · rw [if_pos c, if_pos rfl, if_neg (by omega)]; rfl
    · by_cases d : 9999 < z4
      · rw [if_neg c, if_pos d, if_pos rfl, if_neg (by omega)]; rfl
      · rw [if_neg c, if_neg d, if_neg (by decide), if_pos (by omega)]; rfl
  have th : ∀ H : XH, f_X12_per_31 x (x_i H (x + 64) 0 (jI 0)) (jI z1) (jI z2) (jI z3) (jI z4) v5 = some (jI 0, x_i (x_i H (x + 64) 0 (jI 0)) (x + 64) 0 (jI 1)) := fun H => by
    unfold f_X12_per_31 f_X12_per_36
    rw [show (1 : Int32) = jI 1 from rfl, tvo, Option.bind_some, if_neg (show ¬ jI 1 = (0 : Int32) by decide)]
    rfl
  by_cases cL : 0 ≤ z1 ∧ z1 < wd x h 2
  · by_cases cP : 0 ≤ z2 ∧ z2 < wd x h 1
    · by_cases cH : 0 ≤ z3 ∧ z3 < wd x h 0
      · obtain ⟨t, rfl⟩ : ∃ t : Nat, z1 = t := ⟨z1.toNat, by omega⟩
        obtain ⟨p, rfl⟩ : ∃ p : Nat, z2 = p := ⟨z2.toNat, by omega⟩
        by_cases c : 1 ≤ z4 ∧ z4 ≤ 9999
        · obtain ⟨hh, q1, q2, q3⟩ := c_p49 I (p := p) (t := t) (hs := z3) (s := z4) (v5 := v5) cP.2 cL.2 cH c
          refine rc_q I (res := .inr (if v5 = 0 then jI (pe_ (pv_ (wd x h) t p z3 z4) 3).1 else jI (pe_ (pv_ (wd x h) t p z3 z4) 3).2)) ⟨hh, ?_, Fr.o3 q2 q3 (by decide) (by decide) (by decide)⟩ (fun H J eH => ?_)
          · unfold f_X11_per
            rw [ckL_y I cL, xb_v, ckP_y I cP, xb_v, ckH_y I cH, xb_v, if_neg (fun q => absurd (g0.mp q) (by omega)), if_pos (g1.mpr c.2), m1_, show (1 : Int32) = jI 1 from rfl, q1]
          · have ew : wd x (x_i H (x + 64) 0 (jI 0)) = wd x h := by rw [wm0, eH]
            have e1 := ckL_ry J.m0 (z := (t : Int)) (by rw [ew]; exact cL)
            have e2 := ckP_ry J.m0 (z := (p : Int)) (by rw [ew]; exact cP)
            have e3 := ckH_ry J.m0 (z := z3) (by rw [ew]; exact cH)
            have rn := r_p79 J.m0 (p := p) (t := t) (hs := z3) (s := z4) (v5 := v5) (by rw [ew]; exact cP.2) (by rw [ew]; exact cL.2) (by rw [ew]; exact cH) c
            rw [ew] at rn
            obtain ⟨H2, k1, k2, k3⟩ := rn
            refine ⟨_, H2, ?_, fr_0.tr (Fr.o2 k2 k3 (by decide) (by decide)), by rw [k3]; rfl, by rw [k2 _ (by omega) (by omega)]; exact gi_s, rfl⟩
            unfold f_X12_per
            rw [xl_, show x_i H (x + 64) 0 (0 : Int32) = x_i H (x + 64) 0 (jI 0) from rfl, e1, Option.bind_some, if_pos (show jI 0 = (0 : Int32) from rfl), e2, Option.bind_some, if_pos (show jI 0 = (0 : Int32) from rfl), show f_X12_none x (x_i H (x + 64) 0 (jI 0)) (jI z3) 0 = _ from e3, Option.bind_some, if_pos (show jI 0 = (0 : Int32) from rfl), show f_X12_throwsIf x (x_i H (x + 64) 0 (jI 0)) 0 1 = _ from tvz, Option.bind_some, if_pos (show jI 0 = (0 : Int32) from rfl), i1, if_pos c, tvz, Option.bind_some, if_pos (show jI 0 = (0 : Int32) from rfl), m1_, show (1 : Int32) = jI 1 from rfl, k1]
        · refine rc_q I (res := .inl 1) ⟨h, ?_, Fr.rf⟩ (fun H J eH => ⟨jI 0, x_i (x_i H (x + 64) 0 (jI 0)) (x + 64) 0 (jI 2), ?_, fr_t, rfl, 1, rfl, by decide, gi_s⟩)
          · unfold f_X11_per
            rw [ckL_y I cL, xb_v, ckP_y I cP, xb_v, ckH_y I cH, xb_v]
            by_cases d : z4 < 1
            · rw [if_pos (g0.mpr d)]; rfl
            · rw [if_neg (fun q => d (g0.mp q)), if_neg (fun q => absurd (g1.mp q) (by omega))]; rfl
          · have ew : wd x (x_i H (x + 64) 0 (jI 0)) = wd x h := by rw [wm0, eH]
            have e1 := ckL_ry J.m0 (z := (t : Int)) (by rw [ew]; exact cL)
            have e2 := ckP_ry J.m0 (z := (p : Int)) (by rw [ew]; exact cP)
            have e3 := ckH_ry J.m0 (z := z3) (by rw [ew]; exact cH)
            unfold f_X12_per
            rw [xl_, show x_i H (x + 64) 0 (0 : Int32) = x_i H (x + 64) 0 (jI 0) from rfl, e1, Option.bind_some, if_pos (show jI 0 = (0 : Int32) from rfl), e2, Option.bind_some, if_pos (show jI 0 = (0 : Int32) from rfl), show f_X12_none x (x_i H (x + 64) 0 (jI 0)) (jI z3) 0 = _ from e3, Option.bind_some, if_pos (show jI 0 = (0 : Int32) from rfl), show f_X12_throwsIf x (x_i H (x + 64) 0 (jI 0)) 0 1 = _ from tvz, Option.bind_some, if_pos (show jI 0 = (0 : Int32) from rfl), i1, if_neg c, tvo, Option.bind_some, if_neg (show ¬ jI 1 = (0 : Int32) by decide)]
            rfl
      · refine rc_q I (res := .inl 0) ⟨h, ?_, Fr.rf⟩ (fun H J eH => ⟨jI 0, x_i (x_i H (x + 64) 0 (jI 0)) (x + 64) 0 (jI 1), ?_, fr_t, rfl, 0, rfl, by decide, gi_s⟩)
        · unfold f_X11_per
          rw [ckL_y I cL, xb_v, ckP_y I cP, xb_v, ckH_n I ⟨z3a, z3b⟩ cH, xb_e]
        · have ew : wd x (x_i H (x + 64) 0 (jI 0)) = wd x h := by rw [wm0, eH]
          have e1 := ckL_ry J.m0 (z := z1) (by rw [ew]; exact cL)
          have e2 := ckP_ry J.m0 (z := z2) (by rw [ew]; exact cP)
          have e3 := ckH_rn J.m0 (z := z3) ⟨z3a, z3b⟩ (by rw [ew]; exact cH)
          unfold f_X12_per
          rw [xl_, show x_i H (x + 64) 0 (0 : Int32) = x_i H (x + 64) 0 (jI 0) from rfl, e1, Option.bind_some, if_pos (show jI 0 = (0 : Int32) from rfl), e2, Option.bind_some, if_pos (show jI 0 = (0 : Int32) from rfl), show f_X12_none x (x_i H (x + 64) 0 (jI 0)) (jI z3) 0 = _ from e3, Option.bind_some, if_neg (show ¬ jI 1 = (0 : Int32) by decide), show f_X12_throwsIf x (x_i H (x + 64) 0 (jI 0)) 1 1 = _ from tvo, Option.bind_some, if_neg (show ¬ jI 1 = (0 : Int32) by decide)]
          rfl
    · refine rc_q I (res := .inl 0) ⟨h, ?_, Fr.rf⟩ (fun H J eH => ⟨jI 0, x_i (x_i H (x + 64) 0 (jI 0)) (x + 64) 0 (jI 1), ?_, fr_t, rfl, 0, rfl, by decide, gi_s⟩)
      · unfold f_X11_per
        rw [ckL_y I cL, xb_v, ckP_n I ⟨z2a, z2b⟩ cP, xb_e]
      · have ew : wd x (x_i H (x + 64) 0 (jI 0)) = wd x h := by rw [wm0, eH]
        have e1 := ckL_ry J.m0 (z := z1) (by rw [ew]; exact cL)
        have e2 := ckP_rn J.m0 (z := z2) ⟨z2a, z2b⟩ (by rw [ew]; exact cP)
        unfold f_X12_per
        rw [xl_, show x_i H (x + 64) 0 (0 : Int32) = x_i H (x + 64) 0 (jI 0) from rfl, e1, Option.bind_some, if_pos (show jI 0 = (0 : Int32) from rfl), e2, Option.bind_some, if_neg (show ¬ jI 1 = (0 : Int32) by decide), th]
  · refine rc_q I (res := .inl 0) ⟨h, ?_, Fr.rf⟩ (fun H J eH => ⟨jI 0, x_i (x_i H (x + 64) 0 (jI 0)) (x + 64) 0 (jI 1), ?_, fr_t, rfl, 0, rfl, by decide, gi_s⟩)
    · unfold f_X11_per
      rw [ckL_n I ⟨z1a, z1b⟩ cL, xb_e]
    · have ew : wd x (x_i H (x + 64) 0 (jI 0)) = wd x h := by rw [wm0, eH]
      have e1 := ckL_rn J.m0 ⟨z1a, z1b⟩ (by rw [ew]; exact cL)
      unfold f_X12_per
      rw [xl_, show x_i H (x + 64) 0 (0 : Int32) = x_i H (x + 64) 0 (jI 0) from rfl, e1, Option.bind_some, if_neg (show ¬ jI 1 = (0 : Int32) by decide), th]
