/-! ===== faces: the facts of a card, on both sides ===== -/
theorem Fr.o2 {x : Nat} {h h2 : XH} {o1 o2 : Nat} (f : ∀ a, a ≠ x + o1 → a ≠ x + o2 → h2.1 a = h.1 a) (e : h2.2 = h.2) (m1 : o1 ∈ sc_) (m2 : o2 ∈ sc_) : Fr x h h2 := by
  have n1 : o1 ≠ 1 := fun e => by rw [e] at m1; revert m1; decide
  have n2 : o1 ≠ 64 := fun e => by rw [e] at m1; revert m1; decide
  have n3 : o2 ≠ 1 := fun e => by rw [e] at m2; revert m2; decide
  have n4 : o2 ≠ 64 := fun e => by rw [e] at m2; revert m2; decide
  refine ⟨fun a h1 _ _ => f a (h1 o1 m1) (h1 o2 m2), ?_, ?_, ?_, ?_, ?_, by rw [e]⟩ <;> rw [f _ (by omega) (by omega)]
theorem Fr.o1 {x : Nat} {h h2 : XH} {o : Nat} (f : ∀ a, a ≠ x + o → h2.1 a = h.1 a) (e : h2.2 = h.2) (m : o ∈ sc_) : Fr x h h2 := Fr.o2 (o1 := o) (o2 := o) (fun a h1 _ => f a h1) e m m
def du_ (w : Nat → Int) (c r : Int) : Int := w (8 + 3 * c.toNat + r.toNat)
def fg_ (w : Nat → Int) (p : Nat) (hs dr per sec gone ah age pl ro du : Int) (s : Int) : Int :=
  if s = 0 then sec else if s = 1 then du else if s = 2 then old_ w p hs (dr + pl) ah else if s = 3 then like_ w hs dr (pl_ (w (290 + 81 * p + 2)) per) pl else if s = 4 then age else if s = 5 then gone else if s = 6 then per else if s = 7 then ro else if s = 8 then (if pl = 0 then 1 else 0) else (if pl = pl_ (w (290 + 81 * p + 2)) per - 1 then 1 else 0)
theorem old_2 {gh : Nat} {x : Nat} {K : XK} {h : XH} (I : Inv gh x K h) {p : Nat} {hs dr ah : Int} : 0 ≤ old_ (wd x h) p hs dr ah ∧ old_ (wd x h) p hs dr ah ≤ 8 := old_b I (by have := I.w1; omega)
theorem like_2 {w : Nat → Int} {hs fr mn pl : Int} (hn : mn ≤ 52) : 0 ≤ like_ w hs fr mn pl ∧ like_ w hs fr mn pl ≤ 52 := like_b (by omega)
theorem fg_k {gh : Nat} {x : Nat} {K : XK} {h : XH} (I : Inv gh x K h) {p : Nat} {hs dr per sec gone ah age pl ro du : Int} (b1 : 0 ≤ sec ∧ sec ≤ 60) (b2 : 0 ≤ gone ∧ gone ≤ 120000) (b3 : 0 ≤ age ∧ age ≤ 120000) (b4 : 1 ≤ per ∧ per ≤ 3) (b5 : 0 ≤ ro ∧ ro ≤ 3) (b6 : 0 ≤ du ∧ du ≤ 9) (b7 : pl_ (wd x h (290 + 81 * p + 2)) per ≤ 52) : gk_ false (fg_ (wd x h) p hs dr per sec gone ah age pl ro du) := by
  have ho := old_2 I (p := p) (hs := hs) (dr := dr + pl) (ah := ah)
  have hl := like_2 (w := wd x h) (hs := hs) (fr := dr) (pl := pl) b7
  have h01 : ∀ c : Prop, [Decidable c] → (if c then (1 : Int) else 0) = 0 ∨ (if c then (1 : Int) else 0) = 1 := fun c _ => by
    by_cases e : c
    · exact Or.inr (if_pos e)
    · exact Or.inl (if_neg e)
  have e8 : fg_ (wd x h) p hs dr per sec gone ah age pl ro du 8 = if pl = 0 then 1 else 0 := by simp [fg_]
  have e9 : fg_ (wd x h) p hs dr per sec gone ah age pl ro du 9 = if pl = pl_ (wd x h (290 + 81 * p + 2)) per - 1 then 1 else 0 := by simp [fg_]
  refine ⟨fun s h0 h1 _ => ?_, by rw [e8]; exact h01 _, fun _ => by rw [e9]; exact h01 _⟩
  have q8 := h01 (pl = 0)
  have q9 := h01 (pl = pl_ (wd x h (290 + 81 * p + 2)) per - 1)
  unfold fg_
  generalize (if pl = 0 then (1 : Int) else 0) = y8 at q8 ⊢
  generalize (if pl = pl_ (wd x h (290 + 81 * p + 2)) per - 1 then (1 : Int) else 0) = y9 at q9 ⊢
  generalize old_ (wd x h) p hs (dr + pl) ah = yo at ho ⊢
  generalize like_ (wd x h) hs dr (pl_ (wd x h (290 + 81 * p + 2)) per) pl = yl at hl ⊢
  rcases (show s = 0 ∨ s = 1 ∨ s = 2 ∨ s = 3 ∨ s = 4 ∨ s = 5 ∨ s = 6 ∨ s = 7 ∨ s = 8 ∨ s = 9 by omega) with e | e | e | e | e | e | e | e | e | e <;> subst e <;> simp <;> omega
/-- a putting in the component -/
def PT (h : XH) (v : Nat) (hs dr per sec gone t q od : Int) : Prop := h.1 v 0 = jI hs ∧ h.1 v 1 = jI dr ∧ h.1 v 2 = jI per ∧ h.1 v 3 = jI sec ∧ h.1 v 4 = jI gone ∧ h.1 v 5 = jI t ∧ h.1 v 6 = jI q ∧ h.1 v 7 = jI od
/-- what it may be -/
def PB (w : Nat → Int) (p : Nat) (hs dr per od : Int) : Prop := 0 ≤ hs ∧ hs < w 0 ∧ 0 ≤ dr ∧ 1 ≤ per ∧ per ≤ 3 ∧ dr + pl_ (w (290 + 81 * p + 2)) per ≤ w (164 + 21 * hs.toNat) ∧ 0 ≤ od ∧ od ≤ 10000
def FP (x : Nat) (h : XH) (G : Int → Int) : Prop := ∀ s : Int, 0 ≤ s → s < 10 → s ≠ 1 → s ≠ 7 → h.1 (x + 44) s.toNat = jI (G s)
theorem c_face {gh : Nat} {x : Nat} {K : XK} {h : XH} (I : Inv gh x K h) {p : Nat} (hp : (p : Int) < wd x h 1) {v : Nat} {hs dr per sec gone t q od pl ck : Int} (hv : v ≠ x + 44) (hP : PT h v hs dr per sec gone t q od) (hB : PB (wd x h) p hs dr per od) (hl : 0 ≤ pl ∧ pl < pl_ (wd x h (290 + 81 * p + 2)) per) (ha : 0 ≤ ck - t - pl * q ∧ ck - t - pl * q < 2147483648) (ro du : Int) :
    ∃ h2, f_X5_facePlace x h (jI p) v (jI pl) (jI ck) = some h2 ∧ (∀ a, a ≠ x + 44 → h2.1 a = h.1 a) ∧ h2.2 = h.2 ∧ FP x h2 (fg_ (wd x h) p hs dr per sec gone (od + 1) ((ck - t - pl * q) / 10) pl ro du) := by
  obtain ⟨v0, v1, v2, v3, v4, v5, v6, v7⟩ := hP
  obtain ⟨b1, b2, b3, b4, b5, b6, b7, b8⟩ := hB
  have h1 := I.w1
  have h0 := I.w0
  have hd := I.dr ⟨b1, b2⟩
  obtain ⟨-, -, -, -, -, -, p7, p8, -⟩ := I.wp hp
  have hpl := pl_b p7 p8 b4 b5
  have gv : ∀ (H : XH) (j : Nat) (y : Int32), (x_i H (x + 44) j y).1 v = H.1 v := fun H j y => gi_n hv
  have F1 : Fr x h (x_i h (x + 44) 0 (jI sec)) := Fr.i (by decide)
  have o := c_old (I.fr F1) (p := p) (by rw [F1.ew]; exact hp) (v2 := v) (hs := hs) (dr := dr + pl) (od := od) (by rw [gv]; exact v0) (by rw [gv]; exact v7) (by omega) (by omega) ⟨b7, b8⟩
  rw [F1.ew] at o
  generalize hO : old_ (wd x h) p hs (dr + pl) (od + 1) = O at o
  have F2 : Fr x h (x_i (x_i h (x + 44) 0 (jI sec)) (x + 44) 2 (jI O)) := F1.tr (Fr.i (by decide))
  have l := c_like (I.fr F2) (p := p) (by rw [F2.ew]; exact hp) (v2 := v) (hs := hs) (dr := dr) (per := per) (pl := pl) (by rw [gv, gv]; exact v0) (by rw [gv, gv]; exact v1) (by rw [gv, gv]; exact v2) (by rw [F2.ew]; exact ⟨b1, b2⟩) b3 ⟨b4, b5⟩ (by rw [F2.ew]; exact b6) (by rw [F2.ew]; exact hl)
  rw [F2.ew] at l
  generalize hL : like_ (wd x h) hs dr (pl_ (wd x h (290 + 81 * p + 2)) per) pl = Y at l
  generalize hA : (ck - t - pl * q) / 10 = A
  have F3 : Fr x h (x_i (x_i (x_i h (x + 44) 0 (jI sec)) (x + 44) 2 (jI O)) (x + 44) 3 (jI Y)) := F2.tr (Fr.i (by decide))
  have F4 : Fr x h (x_i (x_i (x_i (x_i h (x + 44) 0 (jI sec)) (x + 44) 2 (jI O)) (x + 44) 3 (jI Y)) (x + 44) 4 (jI A)) := F3.tr (Fr.i (by decide))
  have F5 : Fr x h (x_i (x_i (x_i (x_i (x_i h (x + 44) 0 (jI sec)) (x + 44) 2 (jI O)) (x + 44) 3 (jI Y)) (x + 44) 4 (jI A)) (x + 44) 5 (jI gone)) := F4.tr (Fr.i (by decide))
  have F6 : Fr x h (x_i (x_i (x_i (x_i (x_i (x_i h (x + 44) 0 (jI sec)) (x + 44) 2 (jI O)) (x + 44) 3 (jI Y)) (x + 44) 4 (jI A)) (x + 44) 5 (jI gone)) (x + 44) 6 (jI per)) := F5.tr (Fr.i (by decide))
  have F8 : Fr x h (x_i (x_i (x_i (x_i (x_i (x_i (x_i h (x + 44) 0 (jI sec)) (x + 44) 2 (jI O)) (x + 44) 3 (jI Y)) (x + 44) 4 (jI A)) (x + 44) 5 (jI gone)) (x + 44) 6 (jI per)) (x + 44) 8 (jI (if pl = 0 then 1 else 0))) := F6.tr (Fr.i (by decide))
  have pb := c_pby (I.fr F8) (p := p) (by rw [F8.ew]; exact hp) (per := per) b4 b5
  rw [F8.ew] at pb
  generalize hN : pl_ (wd x h (290 + 81 * p + 2)) per = N at pb hl hpl b6
  have e8 : (if jI pl = (0 : Int32) then (1 : Int32) else 0) = jI (if pl = 0 then 1 else 0) := by
    by_cases e : pl = 0
    · rw [if_pos e, if_pos (by rw [e]; rfl)]; rfl
    · rw [if_neg e, if_neg (show ¬ jI pl = (0 : Int32) from fun c => e ((jI_eq (by omega) (by omega) (by omega) (by omega)).mp (show jI pl = jI 0 from c)))]; rfl
  have e9 : (if jI pl = jI N - 1 then (1 : Int32) else 0) = jI (if pl = N - 1 then 1 else 0) := by
    rw [show (1 : Int32) = jI 1 from rfl, jI_sub]
    by_cases e : pl = N - 1
    · rw [if_pos e, if_pos (by rw [e])]
    · rw [if_neg e, if_neg (fun c => e ((jI_eq (by omega) (by omega) (by omega) (by omega)).mp c))]; rfl
  have ag : f_X4_ageOf v (x_i (x_i (x_i h (x + 44) 0 (jI sec)) (x + 44) 2 (jI O)) (x + 44) 3 (jI Y)) (jI pl) (jI ck) = jI A := by
    unfold f_X4_ageOf
    rw [gv, gv, gv, v5, v6, jI_sub, jI_mul, jI_sub, show (10 : Int32) = jI 10 from rfl, jI_div (by omega) (by omega) (by omega) (by omega), hA]
  have t0 : (0 : Int32).toNatClampNeg = 0 := rfl
  have t2 : (2 : Int32).toNatClampNeg = 2 := rfl
  have t3 : (3 : Int32).toNatClampNeg = 3 := rfl
  have t4 : (4 : Int32).toNatClampNeg = 4 := rfl
  have t5 : (5 : Int32).toNatClampNeg = 5 := rfl
  have t6 : (6 : Int32).toNatClampNeg = 6 := rfl
  have t8 : (8 : Int32).toNatClampNeg = 8 := rfl
  have t9 : (9 : Int32).toNatClampNeg = 9 := rfl
  have np : (jI (p : Int)).toNatClampNeg = p := nat_ (by omega)
  have aj : (x_i h (x + 44) 0 (jI sec)).1 v 1 + jI pl = jI (dr + pl) := by rw [gv, v1, jI_add]
  refine ⟨x_i (x_i (x_i (x_i (x_i (x_i (x_i (x_i h (x + 44) 0 (jI sec)) (x + 44) 2 (jI O)) (x + 44) 3 (jI Y)) (x + 44) 4 (jI A)) (x + 44) 5 (jI gone)) (x + 44) 6 (jI per)) (x + 44) 8 (jI (if pl = 0 then 1 else 0))) (x + 44) 9 (jI (if pl = N - 1 then 1 else 0)), ?_, fun a ha => ?_, rfl, fun s s0 s1 s2 s3 => ?_⟩
  · unfold f_X5_facePlace
    rw [if_pos (jI_b (by omega) (by omega) (by omega)), if_pos (by decide), xl_, t0, v3, aj, o, Option.bind_some, if_pos (by decide), xl_, t2, np, l, Option.bind_some, if_pos (by decide), xl_, t3, if_pos (by decide), xl_, t4, ag, if_pos (by decide), xl_, t5, gv, gv, gv, gv, v4, if_pos (by decide), xl_, t6, gv, gv, gv, gv, gv, v2, if_pos (by decide), xl_, t8, e8, gv, gv, gv, gv, gv, gv, gv, v2, pb, Option.bind_some, if_pos (by decide), xl_, t9, e9]
  · simp only [gi_n ha]
  · unfold fg_
    rw [hO, hL, hN]
    rcases (show s = 0 ∨ s = 2 ∨ s = 3 ∨ s = 4 ∨ s = 5 ∨ s = 6 ∨ s = 8 ∨ s = 9 by omega) with e | e | e | e | e | e | e | e <;> subst e <;> simp [gi_]
