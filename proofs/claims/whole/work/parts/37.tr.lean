/-! ===== told and held by the reference ===== -/
theorem r_isMet {x t b i : Nat} {h : XH} {w : Nat → Int} {ru : Bool} {g : Int → Int} (hb : b = 970 + 851 * t) (ht : t < 6) (hw : ∀ q, h.1 (x + 65) q = jI (w q)) (hx : WTx w b ru) (hi : (i : Int) < w b) (hf : ∀ s : Int, 0 ≤ s → s < 10 → (ru = true → s = 8 ∨ s < 4) → h.1 (x + 69) s.toNat = jI (g s)) (hg : gk_ ru g) :
    ∃ h2, f_X12_holdsLine x h (jI (t : Int)) (jI ((b + 1 + 5 * i : Nat) : Int)) = some (ml_ w b (fun s => jI (g s)) i, h2) ∧ (∀ a, a ≠ x + 70 → h2.1 a = h.1 a) ∧ h2.2 = h.2 := by
  obtain ⟨l1, l2, l3, l4, l5, l6, l7, l8, l9⟩ := hx.2.2.1 i hi
  have h10 := hx.2.1
  have hG : (jI (g 8) = 0 ∨ jI (g 8) = 1) ∧ (ru = false → jI (g 9) = 0 ∨ jI (g 9) = 1) := by
    refine ⟨?_, fun hr => ?_⟩
    · rcases hg.2.1 with q | q <;> rw [q]
      · exact Or.inl (by decide)
      · exact Or.inr (by decide)
    · rcases hg.2.2 hr with q | q <;> rw [q]
      · exact Or.inl (by decide)
      · exact Or.inr (by decide)
  have f3 : jI ((b + 1 + 5 * i : Nat) : Int) + 3 = jI ((b + 4 + 5 * i : Nat) : Int) := by rw [show (3 : Int32) = jI 3 by decide, jI_add]; congr 1; omega
  have n3 : (jI ((b + 4 + 5 * i : Nat) : Int)).toNatClampNeg = b + 4 + 5 * i := nat_ (by omega)
  have f4 : jI ((b + 1 + 5 * i : Nat) : Int) + 4 = jI ((b + 5 + 5 * i : Nat) : Int) := by rw [show (4 : Int32) = jI 4 by decide, jI_add]; congr 1; omega
  have n4 : (jI ((b + 5 + 5 * i : Nat) : Int)).toNatClampNeg = b + 5 + 5 * i := nat_ (by omega)
  unfold ml_
  rw [f_X12_holdsLine, f3, if_pos (jI_b (by omega) (by omega) (by omega)), xl_, n3, hw]
  by_cases c1 : w (b + 4 + 5 * i) = w (b + 5 + 5 * i)
  · rw [if_pos c1]
    refine ⟨h, ?_, fun _ _ => rfl, rfl⟩
    rw [show x_FU = 99999 + 1 from rfl, f_X12_holdsLine_12, f4, if_pos (jI_b (by omega) (by omega) (by omega)), n4, hw, if_pos (by rw [c1]; exact of_eq_true (jleT (by omega) (by omega) (by omega))), if_pos rfl, f_X12_holdsLine_284]
  · rw [if_neg c1]
    have htr := l9.resolve_left c1
    obtain ⟨h2, g1, g2, g3⟩ := r_met (F := fun s => jI (g s)) (kk := b + 1 + 5 * i) (e := (w (b + 5 + 5 * i)).toNat) (h0 := h) hb ht (by omega) hw (by rw [show b + 1 + 5 * i + 4 = b + 5 + 5 * i by omega]; omega) (by omega) hf hG (w (b + 5 + 5 * i) - w (b + 4 + 5 * i)).toNat (w (b + 4 + 5 * i)).toNat x_FU (by omega) (by show _ < 100000; omega) h [] [] (fun _ _ => rfl) rfl trivial trivial (by decide) htr
    refine ⟨h2, ?_, g2, g3⟩
    rw [show (((w (b + 4 + 5 * i)).toNat : Nat) : Int) = w (b + 4 + 5 * i) by omega] at g1
    exact g1
theorem r_told {x t b : Nat} {h : XH} {w : Nat → Int} {ru : Bool} {g : Int → Int} (hb : b = 970 + 851 * t) (ht : t < 6) (hw : ∀ q, h.1 (x + 65) q = jI (w q)) (hx : WTx w b ru) (hf : ∀ s : Int, 0 ≤ s → s < 10 → (ru = true → s = 8 ∨ s < 4) → h.1 (x + 69) s.toNat = jI (g s)) (hg : gk_ ru g) :
    ∃ h2, f_X12_told x h (jI (t : Int)) = some (jI (tl_ w b g), h2) ∧ (∀ a, a ≠ x + 70 → h2.1 a = h.1 a) ∧ h2.2 = h.2 := by
  have h10 := hx.2.1
  have h0 := hx.1
  have tx : ∀ h1 : XH, f_X12_textAt h1 (jI (t : Int)) = jI (b : Int) := fun h1 => by
    rw [f_X12_textAt, show (970 : Int32) = jI 970 by decide, show (851 : Int32) = jI 851 by decide, jI_mul, jI_add]; congr 1; omega
  have nb : (jI (b : Int)).toNatClampNeg = b := nat_ (by omega)
  have key := x_up0 (P := fun m i => ∀ (h1 : XH), (∀ a, a ≠ x + 70 → h1.1 a = h.1 a) → h1.2 = h.2 → ∃ h2, f_X12_told_4 x m h1 (jI (t : Int)) (jI (sm_ i (vl_ w b g))) (jI (i : Int)) = some (jI (sm_ (w b).toNat (vl_ w b g)), h2) ∧ (∀ a, a ≠ x + 70 → h2.1 a = h.1 a) ∧ h2.2 = h.2) (w b).toNat (by omega) (fun m h1 s1 s2 => by
    refine ⟨h1, ?_, s1, s2⟩
    have hwb : h1.1 (x + 65) b = jI (w b) := by rw [s1 _ (by omega), hw]
    rw [f_X12_told_4, tx, if_pos (jI_b (by omega) (by omega) (by omega)), nb, hwb, if_pos (of_eq_true (jleT (by omega) (by omega) (by omega)))]) (fun m i hi ih => by
    intro h1 s1 s2
    have hiw : (i : Int) < w b := by omega
    obtain ⟨l1, l2, l3, l4, l5, l6, l7, l8, l9⟩ := hx.2.2.1 i hiw
    have hvb := vl_b (hx.2.2.1 i hiw) hg
    have hsb := tl_b (n := i) hx hg (by omega)
    have hw1 : ∀ q, h1.1 (x + 65) q = jI (w q) := fun q => by rw [s1 _ (by omega), hw]
    have hf1 : ∀ s : Int, 0 ≤ s → s < 10 → (ru = true → s = 8 ∨ s < 4) → h1.1 (x + 69) s.toNat = jI (g s) := fun s q1 q2 q3 => by rw [s1 _ (by omega)]; exact hf s q1 q2 q3
    obtain ⟨h2, m1, m2, m3⟩ := r_isMet hb ht hw1 hx hiw hf1 hg
    have s3 : ∀ a, a ≠ x + 70 → h2.1 a = h.1 a := fun a ha => (m2 a ha).trans (s1 a ha)
    have hw2 : ∀ q, h2.1 (x + 65) q = jI (w q) := fun q => by rw [s3 _ (by omega), hw]
    have d0 : jI (i : Int) + 1 = jI ((i + 1 : Nat) : Int) := by rw [l1_, jI_add]; rfl
    obtain ⟨h3, r1, r2, r3⟩ := ih h2 s3 (m3.trans s2)
    refine ⟨h3, ?_, r2, r3⟩
    rw [← r1, f_X12_told_4]
    generalize f_X12_told_4 x m = kf
    have la : f_X12_lineAt h1 (jI (t : Int)) (jI (i : Int)) = jI ((b + 1 + 5 * i : Nat) : Int) := by
      rw [f_X12_lineAt, tx, l1_, show (5 : Int32) = jI 5 by decide, jI_mul, jI_add, jI_add]; congr 1 <;> omega
    have f1 : jI ((b + 1 + 5 * i : Nat) : Int) + 1 = jI ((b + 2 + 5 * i : Nat) : Int) := by rw [l1_, jI_add]; congr 1; omega
    have f2 : jI ((b + 1 + 5 * i : Nat) : Int) + 2 = jI ((b + 3 + 5 * i : Nat) : Int) := by rw [l2_, jI_add]; congr 1; omega
    have n0 : (jI ((b + 1 + 5 * i : Nat) : Int)).toNatClampNeg = b + 1 + 5 * i := nat_ (by omega)
    have n1 : (jI ((b + 2 + 5 * i : Nat) : Int)).toNatClampNeg = b + 2 + 5 * i := nat_ (by omega)
    have n2 : (jI ((b + 3 + 5 * i : Nat) : Int)).toNatClampNeg = b + 3 + 5 * i := nat_ (by omega)
    have b0 : x_b (jI ((b + 1 + 5 * i : Nat) : Int)) 6927 = true := jI_b (by omega) (by omega) (by omega)
    have b1 : x_b (jI ((b + 2 + 5 * i : Nat) : Int)) 6927 = true := jI_b (by omega) (by omega) (by omega)
    have b2 : x_b (jI ((b + 3 + 5 * i : Nat) : Int)) 6927 = true := jI_b (by omega) (by omega) (by omega)
    rw [tx, if_pos (jI_b (by omega) (by omega) (by omega)), nb, hw1, if_neg (of_eq_false (jleF (by omega) (by omega) (by omega))), la, m1, Option.bind_some]
    rw [sm_s]
    by_cases cm : ml_ w b (fun s => jI (g s)) i = 0
    · have hv0 : vl_ w b g i = 0 := by unfold vl_; rw [if_pos cm]
      rw [if_pos cm, f_X12_told_100, d0, hv0, Int.add_zero]
    · have hv : vl_ w b g i = (if w (b + 1 + 5 * i) = 0 then w (b + 2 + 5 * i) else -(w (b + 2 + 5 * i))) * (if w (b + 3 + 5 * i) < 0 then 1 else g (w (b + 3 + 5 * i))) := by unfold vl_; rw [if_neg cm]
      have sg : ∀ f : Int, (if jI (w (b + 1 + 5 * i)) = 0 then jI (w (b + 2 + 5 * i)) * jI f else -(jI (w (b + 2 + 5 * i)) * jI f)) = jI ((if w (b + 1 + 5 * i) = 0 then w (b + 2 + 5 * i) else -(w (b + 2 + 5 * i))) * f) := fun f => by
        rw [jL.1]
        by_cases cs : w (b + 1 + 5 * i) = 0
        · rw [if_pos (by rw [cs]), if_pos cs, jI_mul]
        · rw [if_neg (of_eq_false (jeqF (by omega) (by omega) (by omega) (by omega) (by omega))), if_neg cs, jI_mul, jI_neg, Int.neg_mul]
      rw [if_neg cm, f1, f2, if_pos b1, if_pos b2, n2, n1, hw2, hw2]
      by_cases cf : w (b + 3 + 5 * i) < 0
      · rw [if_pos cf] at hv
        rw [if_neg (by rw [jL.1]; exact of_eq_false (jleF (by omega) (by omega) (by omega))), f_X12_told_76, if_pos b0, xl_, n0, hw2, l1_, sg, f_X12_told_100, d0, jI_add, hv]
      · rw [if_neg cf] at hv
        have h48 : (if ru then (4 : Int) else 8) ≤ 8 := by split <;> omega
        have hru : ru = true → w (b + 3 + 5 * i) = 8 ∨ w (b + 3 + 5 * i) < 4 := fun hr => Or.inr (by rw [hr] at l5; simpa using l5)
        have hfg : h2.1 (x + 69) (w (b + 3 + 5 * i)).toNat = jI (g (w (b + 3 + 5 * i))) := by rw [s3 _ (by omega)]; exact hf _ (by omega) (by omega) hru
        rw [if_pos (by rw [jL.1]; exact of_eq_true (jleT (by omega) (by omega) (by omega))), if_pos b2, if_pos (jI_b (by omega) (by omega) (by omega)), jI_nat (by omega) (by omega), hfg, f_X12_told_76, if_pos b0, xl_, n0, hw2, sg, f_X12_told_100, d0, jI_add, hv])
  obtain ⟨h2, g1, g2, g3⟩ := key h (fun _ _ => rfl) rfl
  refine ⟨h2, ?_, g2, g3⟩
  rw [f_X12_told]
  exact g1
theorem r_held {x t b : Nat} {h : XH} {w : Nat → Int} {ru : Bool} {g : Int → Int} (hb : b = 970 + 851 * t) (ht : t < 6) (hw : ∀ q, h.1 (x + 65) q = jI (w q)) (hx : WTx w b ru) (hf : ∀ s : Int, 0 ≤ s → s < 10 → (ru = true → s = 8 ∨ s < 4) → h.1 (x + 69) s.toNat = jI (g s)) (hg : gk_ ru g) :
    ∃ h2, f_X12_held x h (jI (t : Int)) = some (jI (cl_ (tl_ w b g)), h2) ∧ (∀ a, a ≠ x + 70 → h2.1 a = h.1 a) ∧ h2.2 = h.2 := by
  obtain ⟨h2, g1, g2, g3⟩ := r_told hb ht hw hx hf hg
  have hb9 : -1198800000 ≤ tl_ w b g ∧ tl_ w b g ≤ 1198800000 := tl_b (n := (w b).toNat) hx hg (by have := hx.1; omega)
  refine ⟨h2, ?_, g2, g3⟩
  rw [f_X12_held, g1, Option.bind_some]
  unfold cl_ f_J9_max_7cf53 f_J9_min_7cf53
  rw [jL.1, show (100 : Int32) = jI 100 by decide]
  generalize tl_ w b g = z at hb9 ⊢
  by_cases k1 : z < 0
  · rw [if_pos (of_eq_true (jltT (a := z) (b := 100) (by omega) (by omega) (by omega))), if_neg (of_eq_false (jltF (a := 0) (b := z) (by omega) (by omega) (by omega))), if_pos k1]
  · rw [if_neg k1]
    by_cases k2 : 100 < z
    · rw [if_neg (of_eq_false (jltF (a := z) (b := 100) (by omega) (by omega) (by omega))), if_pos (by decide : jI 0 < jI 100), if_pos k2]
    · rw [if_neg k2]
      by_cases k3 : z < 100
      · rw [if_pos (of_eq_true (jltT (a := z) (b := 100) (by omega) (by omega) k3))]
        by_cases k4 : 0 < z
        · rw [if_pos (of_eq_true (jltT (a := 0) (b := z) (by omega) (by omega) k4))]
        · rw [if_neg (of_eq_false (jltF (a := 0) (b := z) (by omega) (by omega) (by omega))), show z = 0 by omega]
      · rw [show z = 100 by omega]
        show some (if jI 0 < (if jI 100 < jI 100 then jI 100 else jI 100) then (if jI 100 < jI 100 then jI 100 else jI 100) else jI 0, h2) = _
        rw [if_neg (by decide : ¬ jI 100 < jI 100), if_pos (by decide : jI 0 < jI 100)]
