/-! ===== the component's cells beside the world ===== -/
/-- how a step of a text is written in the component -/
def mu_ (ru : Bool) (s n : Int) : Int := if s = 10 then n else if s < 10 then 1000 + (if ru = true ∧ s = 8 then 4 else s) else if s = 11 then 1143 else if s = 12 then 1160 else if s = 13 then 1162 else if s = 14 then 1045 else if s = 15 then 1043 else 1044
/-- the Text at r is the text at b -/
def CTx (x : Nat) (K : XK) (h : XH) (r : Nat) (w : Nat → Int) (b : Nat) (ru : Bool) : Prop :=
  x + 77 ≤ r ∧ K r = (11, 0) ∧ K (r + 1) = (14, (w b).toNat) ∧ K (r + 2) = (14, (w b).toNat) ∧ K (r + 3) = (14, (w b).toNat) ∧ (K (r + 4)).1 = 14 ∧ (K (r + 4)).2 ≤ 400 ∧
  (∀ i : Nat, (i : Int) < w b → h.1 (r + 1) i = jI (if w (b + 1 + 5 * i) = 0 then w (b + 2 + 5 * i) else -(w (b + 2 + 5 * i))) ∧ h.1 (r + 2) i = jI (w (b + 3 + 5 * i)) ∧ h.1 (r + 3) i = jI (w (b + 5 + 5 * i)) ∧ w (b + 5 + 5 * i) ≤ (K (r + 4)).2) ∧
  (∀ k : Nat, k < (K (r + 4)).2 → h.1 (r + 4) k = jI (mu_ ru (w (b + 51 + 2 * k)) (w (b + 52 + 2 * k))))
def CPk (h : XH) (a : Nat) (w : Nat → Int) (b : Nat) : Prop :=
  h.1 a 0 = jI (w b) ∧ h.1 a 1 = jI (w (b + 1)) ∧ h.1 a 2 = jI (w (b + 2)) ∧ h.1 a 3 = jI (if 0 < w (b + 3) then 1 else 0) ∧ (∀ i : Nat, i < 52 → h.1 (a + 2) i = jI (w (b + 29 + i))) ∧
  (0 < w (b + 3) → h.1 (a + 1) 0 = jI (w (b + 4)) ∧ h.1 (a + 1) 1 = jI (w (b + 5)) ∧ h.1 (a + 1) 2 = jI (w (b + 6)) ∧ h.1 (a + 1) 3 = jI (w (b + 7)) ∧ h.1 (a + 1) 4 = jI (w (b + 8)) ∧ h.1 (a + 1) 7 = jI (w (b + 3) - 1) ∧
    ∃ t q : Int, h.1 (a + 1) 5 = jI t ∧ h.1 (a + 1) 6 = jI q ∧ 0 ≤ t ∧ t ≤ 1000000 ∧ 0 ≤ q ∧ q ≤ 60 ∧ ∀ k : Nat, (k : Int) < pl_ (w (b + 2)) (w (b + 6)) → w (b + 9 + k) = t + k * q)
/-- the truths of the packs are truths, also of those that are not counted -/
def BB_ (h : XH) (s : Nat) : Prop := ∀ p : Nat, p < 8 → x_isb (h.1 (s + 10 + 3 * p) 3) = true
def CSt (x : Nat) (K : XK) (h : XH) (s : Nat) (w : Nat → Int) : Prop :=
  (h.1 s 1 = jI (w 0) ∧ h.1 s 4 = jI (w 1) ∧ h.1 s 6 = jI (w 7) ∧ h.1 s 7 = jI (w 6) ∧ h.1 s 8 = jI (w 2) ∧ h.1 s 10 = jI (w 3) ∧ h.1 s 12 = jI (w 4) ∧ h.1 s 15 = jI (w 5)) ∧
  (∀ k : Nat, k < 156 → h.1 (s + 1) k = jI (w (8 + k))) ∧
  (∀ j : Nat, (j : Int) < w 0 → h.1 (s + 2) j = jI (w (164 + 21 * j)) ∧ ∀ d : Nat, (d : Int) < w (164 + 21 * j) → h.1 (s + 3) (20 * j + d) = jI (w (165 + 21 * j + d))) ∧
  (∀ p : Nat, (p : Int) < w 1 → CPk h (s + 10 + 3 * p) w (290 + 81 * p)) ∧
  (∀ k : Nat, (k : Int) < w 4 → h.1 (s + 7) k = jI (w (938 + k))) ∧ (∀ k : Nat, k < 6 → h.1 (s + 8) k = jI (w (964 + k))) ∧ (∀ k : Nat, (k : Int) < w 5 → h.1 (s + 9) k = jI (w (944 + k))) ∧
  (∀ t : Nat, (t : Int) < w 2 → ∃ r, h.2.2 (s + 5) t = some r ∧ CTx x K h r w (970 + 851 * t) false) ∧
  (∀ t : Nat, (t : Int) < w 3 → ∃ r, h.2.2 (s + 6) t = some r ∧ CTx x K h r w (3523 + 851 * t) true) ∧ BB_ h s
def Im_ (gh : Nat) (x : Nat) (K : XK) (h : XH) : Prop := (h.2.2 x 8 = none ∧ h.1 (x + 64) 3 = 0) ∨ (∃ r, h.2.2 x 8 = some r ∧ x + 77 ≤ r ∧ K r = (8, 0) ∧ h.1 (x + 64) 3 = 1 ∧ WI gh (wj x h) ∧ CSt x K h r (wj x h))
/-- the tape: L bytes on both sides -/
def Tp_ (x : Nat) (h : XH) : Prop := ∃ L : Nat, L ≤ 400 ∧ h.1 (x + 1) 1 = jI L ∧ h.1 (x + 64) 5 = jI L ∧ h.1 (x + 64) 10 = h.1 (x + 1) 8 ∧
  ∀ k : Nat, k < L → ∃ v : Int, 0 ≤ v ∧ v < 256 ∧ h.1 (x + 2) k = jI v ∧ h.1 (x + 67) k = jI (if v < 128 then v else v - 256)
def Inv (gh : Nat) (x : Nat) (K : XK) (h : XH) : Prop := WI gh (wd x h) ∧ CSt x K h (x + 9) (wd x h) ∧ Im_ gh x K h ∧ Tp_ x h
theorem Inv.le {gh gk : Nat} {x : Nat} {K : XK} {h : XH} (I : Inv gh x K h) (e : gh ≤ gk) (e2 : gk ≤ 1000) : Inv gk x K h := ⟨I.1.le e e2, I.2.1, I.2.2.1.elim Or.inl (fun ⟨r, q1, q2, q3, q4, q5, q6⟩ => Or.inr ⟨r, q1, q2, q3, q4, q5.le e e2, q6⟩), I.2.2.2⟩
/-! ===== only what is made anew before it is read has changed ===== -/
def sc_ : List Nat := [3, 4, 5, 6, 7, 8, 44, 45, 47, 48, 50, 51, 52, 53, 54, 55, 56, 57, 58, 60, 61, 62, 63, 68, 69, 70, 71, 72, 73, 74, 75]
def Fr (x : Nat) (h h' : XH) : Prop := (∀ a, (∀ j, j ∈ sc_ → a ≠ x + j) → a ≠ x + 1 → a ≠ x + 64 → h'.1 a = h.1 a) ∧ h'.1 (x + 1) 1 = h.1 (x + 1) 1 ∧ h'.1 (x + 1) 8 = h.1 (x + 1) 8 ∧ h'.1 (x + 64) 3 = h.1 (x + 64) 3 ∧ h'.1 (x + 64) 5 = h.1 (x + 64) 5 ∧ h'.1 (x + 64) 10 = h.1 (x + 64) 10 ∧ h'.2.2 = h.2.2
theorem Fr.rf {x : Nat} {h : XH} : Fr x h h := ⟨fun _ _ _ _ => rfl, rfl, rfl, rfl, rfl, rfl, rfl⟩
theorem Fr.tr {x : Nat} {h h1 h2 : XH} (a : Fr x h h1) (b : Fr x h1 h2) : Fr x h h2 := by
  obtain ⟨a1, a2, a3, a4, a5, a6, a7⟩ := a
  obtain ⟨b1, b2, b3, b4, b5, b6, b7⟩ := b
  exact ⟨fun q h1 h2 h3 => (b1 q h1 h2 h3).trans (a1 q h1 h2 h3), b2.trans a2, b3.trans a3, b4.trans a4, b5.trans a5, b6.trans a6, b7.trans a7⟩
theorem Fr.i {x : Nat} {h : XH} {o j : Nat} {v : Int32} (ho : o ∈ sc_) : Fr x h (x_i h (x + o) j v) := by
  have n1 : o ≠ 1 := fun e => by rw [e] at ho; revert ho; decide
  have n2 : o ≠ 64 := fun e => by rw [e] at ho; revert ho; decide
  refine ⟨fun a h1 _ _ => x_i_ne (h1 o ho), ?_, ?_, ?_, ?_, ?_, rfl⟩ <;> exact gi_a (by omega)
/-- a field of the reference that is no part of its state -/
theorem Fr.m {x : Nat} {h : XH} {j : Nat} {v : Int32} (h3 : j ≠ 3) (h5 : j ≠ 5) (h10 : j ≠ 10) : Fr x h (x_i h (x + 64) j v) :=
  ⟨fun a _ _ h9 => x_i_ne h9, gi_a (by omega), gi_a (by omega), gi_k (Ne.symm h3), gi_k (Ne.symm h5), gi_k (Ne.symm h10), rfl⟩
theorem Fr.t {x : Nat} {h : XH} {j : Nat} {v : Int32} (h1 : j ≠ 1) (h8 : j ≠ 8) : Fr x h (x_i h (x + 1) j v) :=
  ⟨fun a _ h9 _ => x_i_ne h9, gi_k (Ne.symm h1), gi_k (Ne.symm h8), gi_a (by omega), gi_a (by omega), gi_a (by omega), rfl⟩
theorem Fr.l {x : Nat} {h : XH} {a j : Nat} {v : Int64} : Fr x h (x_l h a j v) := ⟨fun _ _ _ _ => rfl, rfl, rfl, rfl, rfl, rfl, rfl⟩
theorem Fr.at {x : Nat} {h h' : XH} (f : Fr x h h') {o k : Nat} (ho : o ∉ sc_ ∧ o ≠ 1 ∧ o ≠ 64) : h'.1 (x + o) k = h.1 (x + o) k := by
  rw [f.1 (x + o) (fun j hj e => ho.1 (by rw [show o = j by omega]; exact hj)) (by omega) (by omega)]
theorem Fr.far {x : Nat} {h h' : XH} (f : Fr x h h') {a : Nat} (ha : x + 77 ≤ a) : h'.1 a = h.1 a := by
  refine f.1 a (fun j hj e => ?_) (by omega) (by omega)
  have : ∀ j ∈ sc_, j < 77 := by decide
  have := this j hj
  omega
theorem Fr.ew {x : Nat} {h h' : XH} (f : Fr x h h') : wd x h' = wd x h := by
  funext k
  unfold wd
  rw [f.at (o := 65) (by decide)]
theorem Fr.ej {x : Nat} {h h' : XH} (f : Fr x h h') : wj x h' = wj x h := by
  funext k
  unfold wj
  rw [f.at (o := 66) (by decide)]
theorem CTx.c {x r b : Nat} {K K' : XK} {h h' : XH} {w w' : Nat → Int} {ru : Bool} (c : CTx x K h r w b ru) (hw : 0 ≤ w b ∧ w b ≤ 10) (hK : ∀ a, r ≤ a → a ≤ r + 4 → K' a = K a) (hh : ∀ a, r ≤ a → a ≤ r + 4 → h'.1 a = h.1 a) (e : ∀ k, b ≤ k → k < b + 851 → w' k = w k) : CTx x K' h' r w' b ru := by
  obtain ⟨c1, c2, c3, c4, c5, c6, c7, c8, c9⟩ := c
  have eb := e b (by omega) (by omega)
  unfold CTx
  rw [hK r (by omega) (by omega), hK (r + 1) (by omega) (by omega), hK (r + 2) (by omega) (by omega), hK (r + 3) (by omega) (by omega), hK (r + 4) (by omega) (by omega), hh (r + 1) (by omega) (by omega), hh (r + 2) (by omega) (by omega), hh (r + 3) (by omega) (by omega), hh (r + 4) (by omega) (by omega), eb]
  refine ⟨c1, c2, c3, c4, c5, c6, c7, fun i hi => ?_, fun k hk => ?_⟩
  · rw [e (b + 1 + 5 * i) (by omega) (by omega), e (b + 2 + 5 * i) (by omega) (by omega), e (b + 3 + 5 * i) (by omega) (by omega), e (b + 5 + 5 * i) (by omega) (by omega)]
    exact c8 i hi
  · rw [e (b + 51 + 2 * k) (by omega) (by omega), e (b + 52 + 2 * k) (by omega) (by omega)]
    exact c9 k hk
theorem CPk.c {a b : Nat} {h h' : XH} {w w' : Nat → Int} (c : CPk h a w b) (hp : pl_ (w (b + 2)) (w (b + 6)) ≤ 20 ∨ ¬ 0 < w (b + 3)) (hh : ∀ q, a ≤ q → q ≤ a + 2 → h'.1 q = h.1 q) (e : ∀ k, b ≤ k → k < b + 81 → w' k = w k) : CPk h' a w' b := by
  obtain ⟨c1, c2, c3, c4, c5, c6⟩ := c
  unfold CPk
  rw [hh a (by omega) (by omega), hh (a + 1) (by omega) (by omega), hh (a + 2) (by omega) (by omega), e b (by omega) (by omega), e (b + 1) (by omega) (by omega), e (b + 2) (by omega) (by omega), e (b + 3) (by omega) (by omega), e (b + 4) (by omega) (by omega), e (b + 5) (by omega) (by omega), e (b + 6) (by omega) (by omega), e (b + 7) (by omega) (by omega), e (b + 8) (by omega) (by omega)]
  refine ⟨c1, c2, c3, c4, fun i hi => ?_, fun hq => ?_⟩
  · rw [e (b + 29 + i) (by omega) (by omega)]; exact c5 i hi
  · obtain ⟨d1, d2, d3, d4, d5, d6, t, q, d7, d8, d9, d10, d11, d12, d13⟩ := c6 hq
    refine ⟨d1, d2, d3, d4, d5, d6, t, q, d7, d8, d9, d10, d11, d12, fun k hk => ?_⟩
    rcases hp with hp | hp
    · rw [e (b + 9 + k) (by omega) (by omega)]; exact d13 k hk
    · exact absurd hq hp
theorem WPk.pl {w : Nat → Int} {b : Nat} (h : WPk w b) (hd : ∀ j : Nat, (j : Int) < w 0 → w (164 + 21 * j) ≤ 20) : pl_ (w (b + 2)) (w (b + 6)) ≤ 20 ∨ ¬ 0 < w (b + 3) := by
  obtain ⟨p1, p2, p3, p4, p5, p6, p7, p8, p9, p10, p11, p12, p13, p14⟩ := h
  by_cases hq : 0 < w (b + 3)
  · obtain ⟨q1, q2, q3, q4, -⟩ := p14 hq
    have := hd (w (b + 4)).toNat (by omega)
    exact Or.inl (by omega)
  · exact Or.inr hq
theorem CSt.c {gh : Nat} {x s : Nat} {K K' : XK} {h h' : XH} {w w' : Nat → Int} (c : CSt x K h s w) (hI : WI gh w) (hK : ∀ r, x + 77 ≤ r → K r = (11, 0) → ∀ a, r ≤ a → a ≤ r + 4 → K' a = K a) (hT : ∀ r, x + 77 ≤ r → K r = (11, 0) → ∀ a, r ≤ a → a ≤ r + 4 → h'.1 a = h.1 a) (hh : ∀ a, s ≤ a → a < s + 34 → h'.1 a = h.1 a) (h5 : h'.2.2 (s + 5) = h.2.2 (s + 5)) (h6 : h'.2.2 (s + 6) = h.2.2 (s + 6)) (e : ∀ k, k < 6076 → w' k = w k) : CSt x K' h' s w' := by
  obtain ⟨c1, c2, c3, c4, c5, c6, c7, c8, c9, c10⟩ := c
  obtain ⟨hC, hD, hH, hP, hU, hM, hW, hN, hX⟩ := hI
  obtain ⟨i1, i2, i3, i4, i5, i6, i7, i8, i9, i10, i11, i12, i13, i14, i15, i16⟩ := hC
  have hd : ∀ j : Nat, (j : Int) < w 0 → w (164 + 21 * j) ≤ 20 := fun j hj => (hH j hj).2.1
  unfold CSt
  rw [e 0 (by omega), e 1 (by omega), e 2 (by omega), e 3 (by omega), e 4 (by omega), e 5 (by omega), e 6 (by omega), e 7 (by omega), hh s (by omega) (by omega), hh (s + 1) (by omega) (by omega), hh (s + 2) (by omega) (by omega), hh (s + 3) (by omega) (by omega), hh (s + 7) (by omega) (by omega), hh (s + 8) (by omega) (by omega), hh (s + 9) (by omega) (by omega), h5, h6]
  refine ⟨c1, fun k hk => ?_, fun j hj => ?_, fun p hp => ?_, fun k hk => ?_, fun k hk => ?_, fun k hk => ?_, fun t ht => ?_, fun t ht => ?_, fun p hp => ?_⟩
  · rw [e (8 + k) (by omega)]; exact c2 k hk
  · have h20 := hd j hj
    rw [e (164 + 21 * j) (by omega)]
    refine ⟨(c3 j hj).1, fun d hd9 => ?_⟩
    rw [e (165 + 21 * j + d) (by omega)]
    exact (c3 j hj).2 d hd9
  · exact (c4 p hp).c ((hP p hp).pl hd) (fun q h1 h2 => hh q (by omega) (by omega)) (fun k h1 h2 => e k (by omega))
  · rw [e (938 + k) (by omega)]; exact c5 k hk
  · rw [e (964 + k) (by omega)]; exact c6 k hk
  · rw [e (944 + k) (by omega)]; exact c7 k hk
  · obtain ⟨r, h1, h2⟩ := c8 t ht
    exact ⟨r, h1, h2.c ⟨(hX.1 t ht).1, (hX.1 t ht).2.1⟩ (hK r h2.1 h2.2.1) (hT r h2.1 h2.2.1) (fun k q1 q2 => e k (by omega))⟩
  · obtain ⟨r, h1, h2⟩ := c9 t ht
    exact ⟨r, h1, h2.c ⟨(hX.2 t ht).1, (hX.2 t ht).2.1⟩ (hK r h2.1 h2.2.1) (hT r h2.1 h2.2.1) (fun k q1 q2 => e k (by omega))⟩
  · rw [hh (s + 10 + 3 * p) (by omega) (by omega)]; exact c10 p hp
theorem Inv.fr {gh : Nat} {x : Nat} {K : XK} {h h' : XH} (I : Inv gh x K h) (f : Fr x h h') : Inv gh x K h' := by
  obtain ⟨hW, hS, hM, L, hL, t1, t2, t3, t4⟩ := I
  have far : ∀ a, x + 77 ≤ a → h'.1 a = h.1 a := fun a ha => f.far ha
  have near : ∀ j, 9 ≤ j → j < 43 → h'.1 (x + j) = h.1 (x + j) := fun j h1 h2 => by
    funext k
    refine f.at ⟨fun hj => ?_, by omega, by omega⟩
    have : ∀ j ∈ sc_, j < 9 ∨ 43 ≤ j := by decide
    have := this j hj
    omega
  refine ⟨?_, ?_, ?_, L, hL, by rw [f.2.1]; exact t1, by rw [f.2.2.2.2.1]; exact t2, by rw [f.2.2.2.2.2.1, f.2.2.1]; exact t3, fun k hk => ?_⟩
  · rw [f.ew]; exact hW
  · rw [f.ew]
    exact hS.c hW (fun _ _ _ _ _ _ => rfl) (fun r h1 _ a h2 _ => far a (by omega)) (fun a h1 h2 => by rw [show a = x + (a - x) by omega]; exact near (a - x) (by omega) (by omega)) (by rw [f.2.2.2.2.2.2]) (by rw [f.2.2.2.2.2.2]) (fun _ _ => rfl)
  · rcases hM with ⟨m1, m2⟩ | ⟨r, m1, m2, m3, m4, m5, m6⟩
    · exact Or.inl ⟨by rw [f.2.2.2.2.2.2]; exact m1, by rw [f.2.2.2.1]; exact m2⟩
    · refine Or.inr ⟨r, by rw [f.2.2.2.2.2.2]; exact m1, m2, m3, by rw [f.2.2.2.1]; exact m4, by rw [f.ej]; exact m5, ?_⟩
      rw [f.ej]
      exact m6.c m5 (fun _ _ _ _ _ _ => rfl) (fun r h1 _ a h2 _ => far a (by omega)) (fun a h1 h2 => far a (by omega)) (by rw [f.2.2.2.2.2.2]) (by rw [f.2.2.2.2.2.2]) (fun _ _ => rfl)
  · rw [f.at (o := 2) (by decide), f.at (o := 67) (by decide)]
    exact t4 k hk
