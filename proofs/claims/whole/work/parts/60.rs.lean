/-! ===== the facts of a card in the reference ===== -/
theorem r_dul {x : Nat} {h : XH} {c r : Int} (hc : 0 ≤ c ∧ c < 52) (hr : 0 ≤ r ∧ r < 3) : f_X12_dullOf x h (jI c) (jI r) = some (jI (du_ (wd x h) c r)) := by
  unfold f_X12_dullOf
  rw [show (8 : Int32) = jI 8 from rfl, show (3 : Int32) = jI 3 from rfl, jI_mul, jI_add, jI_add, if_pos (jI_b (by omega) (by omega) (by omega)), jI_nat (by omega) (by omega), wd_j]
  unfold du_
  rw [show (8 + 3 * c + r).toNat = 8 + 3 * c.toNat + r.toNat by omega]
def RF (x : Nat) (h : XH) (G : Int → Int) : Prop := ∀ s : Int, 0 ≤ s → s < 10 → h.1 (x + 69) s.toNat = jI (G s)
theorem r_supp {gh : Nat} {x : Nat} {K : XK} {h : XH} (I : Inv gh x K h) {p : Nat} (hp : (p : Int) < wd x h 1) {hs dr per sec gone ah age i : Int} (b1 : 0 ≤ hs ∧ hs < wd x h 0) (b2 : 0 ≤ dr) (b3 : 1 ≤ per ∧ per ≤ 3) (b4 : dr + pl_ (wd x h (290 + 81 * p + 2)) per ≤ 20) (b5 : 0 ≤ ah ∧ ah ≤ 10000) (hi : 0 ≤ i ∧ i < wd x h (290 + 81 * p + 2)) :
    ∃ h2, f_X12_supposes x h (jI p) (jI i) (jI hs) (jI dr) (jI per) (jI sec) (jI age) (jI gone) (jI ah) = some h2 ∧ (∀ a, a ≠ x + 69 → h2.1 a = h.1 a) ∧ h2.2 = h.2 ∧ RF x h2 (fg_ (wd x h) p hs dr per sec gone ah age (i / per) (i % per) (du_ (wd x h) (cd_ (wd x h) p i) (i % per))) := by
  have h1 := I.w1
  have h0 := I.w0
  obtain ⟨-, -, -, -, -, -, p7, p8, -⟩ := I.wp hp
  have hpl := pl_b p7 p8 b3.1 b3.2
  obtain ⟨-, -, -, -, -, n6, n7, n8, n9, n10⟩ := nm_ (per := per) (i := i) (n := wd x h (290 + 81 * p + 2)) b3.1 b3.2 hi.1
  have ni := n10 hi.2
  have o2 := of_2 (x := x) (h := h) (p := p) (by omega)
  have pf := r_pf (h := h) (n := wd x h (290 + 81 * p + 2)) (per := per) p7 p8 b3.1 b3.2
  have dv : jI i / jI per = jI (i / per) := jI_div (by omega) (by omega) (by omega) (by omega)
  have rm : x_rem (jI i) (jI per) = jI (i % per) := jI_rem (by omega) (by omega) (by omega) (by omega)
  have pz : ¬ jI per = 0 := fun e => absurd ((jI_eq (by omega) (by omega) (by omega) (by omega)).mp (show jI per = jI 0 from e)) (by omega)
  generalize hD : du_ (wd x h) (cd_ (wd x h) p i) (i % per) = D
  have F1 : Fr x h (x_i (x_i h (x + 69) 0 (jI sec)) (x + 69) 7 (jI (i % per))) := (Fr.i (by decide)).tr (Fr.i (by decide))
  have cd := r_card (I.fr F1) (p := p) (by rw [F1.ew]; exact hp) (i := i) (by omega)
  rw [F1.ew] at cd
  have cb := cd_b (wd x h) p i
  have dl := r_dul (x := x) (h := x_i (x_i h (x + 69) 0 (jI sec)) (x + 69) 7 (jI (i % per))) (c := cd_ (wd x h) p i) (r := i % per) cb ⟨n6, by omega⟩
  rw [F1.ew, hD] at dl
  have F2 : Fr x h (x_i (x_i (x_i h (x + 69) 0 (jI sec)) (x + 69) 7 (jI (i % per))) (x + 69) 1 (jI D)) := F1.tr (Fr.i (by decide))
  have o := r_old (I.fr F2) (p := p) (by rw [F2.ew]; exact hp) (hs := hs) (dr := dr + i / per) (ah := ah) (by omega) (by omega) b5
  rw [F2.ew] at o
  generalize hO : old_ (wd x h) p hs (dr + i / per) ah = O at o
  have F3 : Fr x h (x_i (x_i (x_i (x_i h (x + 69) 0 (jI sec)) (x + 69) 7 (jI (i % per))) (x + 69) 1 (jI D)) (x + 69) 2 (jI O)) := F2.tr (Fr.i (by decide))
  have l := r_like (I.fr F3) (hs := hs) (dr := dr) (mn := pl_ (wd x h (290 + 81 * p + 2)) per) (pl := i / per) (by rw [F3.ew]; exact b1) b2 b4 ⟨n8, ni⟩
  rw [F3.ew] at l
  generalize hL : like_ (wd x h) hs dr (pl_ (wd x h (290 + 81 * p + 2)) per) (i / per) = Y at l
  generalize hN : pl_ (wd x h (290 + 81 * p + 2)) per = N at l pf hpl ni b4
  generalize hI : i / per = P at *
  have e8 : (if jI P = (0 : Int32) then (1 : Int32) else 0) = jI (if P = 0 then 1 else 0) := by
    by_cases e : P = 0
    · rw [if_pos e, if_pos (by rw [e]; rfl)]; rfl
    · rw [if_neg e, if_neg (show ¬ jI P = (0 : Int32) from fun c => e ((jI_eq (by omega) (by omega) (by omega) (by omega)).mp (show jI P = jI 0 from c)))]; rfl
  have e9 : (if jI P = jI N - 1 then (1 : Int32) else 0) = jI (if P = N - 1 then 1 else 0) := by
    rw [show (1 : Int32) = jI 1 from rfl, jI_sub]
    by_cases e : P = N - 1
    · rw [if_pos e, if_pos (by rw [e])]
    · rw [if_neg e, if_neg (fun c => e ((jI_eq (by omega) (by omega) (by omega) (by omega)).mp c))]; rfl
  have t0 : (0 : Int32).toNatClampNeg = 0 := rfl
  have t1 : (1 : Int32).toNatClampNeg = 1 := rfl
  have t2 : (2 : Int32).toNatClampNeg = 2 := rfl
  have t3 : (3 : Int32).toNatClampNeg = 3 := rfl
  have t4 : (4 : Int32).toNatClampNeg = 4 := rfl
  have t5 : (5 : Int32).toNatClampNeg = 5 := rfl
  have t6 : (6 : Int32).toNatClampNeg = 6 := rfl
  have t7 : (7 : Int32).toNatClampNeg = 7 := rfl
  have t8 : (8 : Int32).toNatClampNeg = 8 := rfl
  have t9 : (9 : Int32).toNatClampNeg = 9 := rfl
  have o2' : f_X12_of x h (jI p) 2 = some (jI (wd x h (290 + 81 * p + 2))) := o2
  refine ⟨x_i (x_i (x_i (x_i (x_i (x_i (x_i (x_i (x_i (x_i h (x + 69) 0 (jI sec)) (x + 69) 7 (jI (i % per))) (x + 69) 1 (jI D)) (x + 69) 2 (jI O)) (x + 69) 3 (jI Y)) (x + 69) 4 (jI age)) (x + 69) 5 (jI gone)) (x + 69) 6 (jI per)) (x + 69) 8 (jI (if P = 0 then 1 else 0))) (x + 69) 9 (jI (if P = N - 1 then 1 else 0)), ?_, fun a ha => ?_, rfl, fun s s0 s1 => ?_⟩
  · unfold f_X12_supposes
    rw [if_neg pz, o2', Option.bind_some, pf, Option.bind_some, if_pos (by decide), xl_, t0, if_neg pz, if_pos (by decide), xl_, t7, rm, cd, Option.bind_some, if_neg pz, dl, Option.bind_some, if_pos (by decide), xl_, t1, dv, jI_add, o, Option.bind_some, if_pos (by decide), xl_, t2, l, Option.bind_some, if_pos (by decide), xl_, t3, if_pos (by decide), xl_, t4, if_pos (by decide), xl_, t5, if_pos (by decide), xl_, t6, if_pos (by decide), xl_, t8, e8, if_pos (by decide), xl_, t9, e9]
  · simp only [gi_n ha]
  · unfold fg_
    rw [hO, hL, hN]
    rcases (show s = 0 ∨ s = 1 ∨ s = 2 ∨ s = 3 ∨ s = 4 ∨ s = 5 ∨ s = 6 ∨ s = 7 ∨ s = 8 ∨ s = 9 by omega) with e | e | e | e | e | e | e | e | e | e <;> subst e <;> simp [gi_]
/-- a text of a law, on both sides -/
theorem Inv.law {gh : Nat} {x : Nat} {K : XK} {h : XH} (I : Inv gh x K h) {t : Nat} (ht : (t : Int) < wd x h 2) : ∃ r, h.2.2 (x + 14) t = some r ∧ CTx x K h r (wd x h) (970 + 851 * t) false := I.2.1.2.2.2.2.2.2.2.1 t ht
theorem Inv.wl {gh : Nat} {x : Nat} {K : XK} {h : XH} (I : Inv gh x K h) {t : Nat} (ht : (t : Int) < wd x h 2) : WTx (wd x h) (970 + 851 * t) false := I.1.2.2.2.2.2.2.2.2.1 t ht
theorem Inv.w2 {gh : Nat} {x : Nat} {K : XK} {h : XH} (I : Inv gh x K h) : 0 ≤ wd x h 2 ∧ wd x h 2 ≤ 3 := ⟨I.1.1.2.2.2.2.1, I.1.1.2.2.2.2.2.1⟩
/-- what a card holds in the reference, once the facts are there -/
theorem r_hold {gh : Nat} {x : Nat} {K : XK} {h : XH} (I : Inv gh x K h) {t : Nat} (ht : (t : Int) < wd x h 2) {G : Int → Int} (hF : RF x h G) (hg : gk_ false G) : ∃ h2, f_X12_held x h (jI (t : Int)) = some (jI (cl_ (tl_ (wd x h) (970 + 851 * t) G)), h2) ∧ (∀ a, a ≠ x + 70 → h2.1 a = h.1 a) ∧ h2.2 = h.2 := by
  have := I.w2
  exact r_held rfl (by omega) (fun q => wd_j x h q) (I.wl ht) (fun s s0 s1 _ => hF s s0 s1) hg
/-- both together: one card of a sum of the reference -/
theorem r_one {gh : Nat} {x : Nat} {K : XK} {h : XH} (I : Inv gh x K h) {p t : Nat} (hp : (p : Int) < wd x h 1) (ht : (t : Int) < wd x h 2) {hs dr per sec gone ah i : Int} {age : Int → Int} (b1 : 0 ≤ hs ∧ hs < wd x h 0) (b2 : 0 ≤ dr) (b3 : 1 ≤ per ∧ per ≤ 3) (b4 : dr + pl_ (wd x h (290 + 81 * p + 2)) per ≤ 20) (b5 : 0 ≤ ah ∧ ah ≤ 10000) (hi : 0 ≤ i ∧ i < wd x h (290 + 81 * p + 2)) (c1 : 0 ≤ sec ∧ sec ≤ 60) (c2 : 0 ≤ gone ∧ gone ≤ 120000) (c3 : 0 ≤ age (i / per) ∧ age (i / per) ≤ 120000) :
    ∃ h1 h2, f_X12_supposes x h (jI p) (jI i) (jI hs) (jI dr) (jI per) (jI sec) (jI (age (i / per))) (jI gone) (jI ah) = some h1 ∧ RF x h1 (fg_ (wd x h) p hs dr per sec gone ah (age (i / per)) (i / per) (i % per) (du_ (wd x h) (cd_ (wd x h) p i) (i % per))) ∧ f_X12_held x h1 (jI (t : Int)) = some (jI (hg_ (wd x h) t p hs dr per sec gone ah age i), h2) ∧ (∀ a, a ≠ x + 69 → h1.1 a = h.1 a) ∧ h1.2 = h.2 ∧ (∀ a, a ≠ x + 69 → a ≠ x + 70 → h2.1 a = h.1 a) ∧ h2.2 = h.2 := by
  obtain ⟨-, -, -, -, -, -, p7, p8, -⟩ := I.wp hp
  have hpl := pl_b p7 p8 b3.1 b3.2
  obtain ⟨-, -, -, -, -, n6, n7, n8, n9, n10⟩ := nm_ (per := per) (i := i) (n := wd x h (290 + 81 * p + 2)) b3.1 b3.2 hi.1
  obtain ⟨h1, g1, g2, g3, g4⟩ := r_supp I hp (sec := sec) (gone := gone) (age := age (i / per)) b1 b2 b3 b4 b5 hi
  have F : Fr x h h1 := Fr.o1 g2 g3 (by decide)
  have db := du_b I (p := p) (i := i) (r := i % per) ⟨n6, by omega⟩
  have gk := fg_k I (p := p) (hs := hs) (dr := dr) (ah := ah) (pl := i / per) c1 c2 c3 b3 ⟨n6, by omega⟩ db hpl.2
  have hd := r_hold (I.fr F) (t := t) (by rw [F.ew]; exact ht) g4 gk
  rw [F.ew] at hd
  obtain ⟨h2, k1, k2, k3⟩ := hd
  exact ⟨h1, h2, g1, g4, k1, g2, g3, fun a q1 q2 => by rw [k2 a q2, g2 a q1], by rw [k3, g3]⟩
