/-! ===== evaluating ===== -/
theorem jL : (0 : Int32) = jI 0 ∧ (1 : Int32) = jI 1 ∧ (2 : Int32) = jI 2 ∧ (3 : Int32) = jI 3 ∧ (4 : Int32) = jI 4 ∧ (5 : Int32) = jI 5 ∧ (6 : Int32) = jI 6 ∧ (7 : Int32) = jI 7 ∧ (8 : Int32) = jI 8 ∧ (9 : Int32) = jI 9 ∧ (10 : Int32) = jI 10 ∧ (13 : Int32) = jI 13 ∧ (20 : Int32) = jI 20 ∧ (21 : Int32) = jI 21 ∧ (29 : Int32) = jI 29 ∧ (51 : Int32) = jI 51 ∧ (52 : Int32) = jI 52 ∧ (60 : Int32) = jI 60 ∧ (81 : Int32) = jI 81 ∧ (100 : Int32) = jI 100 ∧ (164 : Int32) = jI 164 ∧ (290 : Int32) = jI 290 ∧ (938 : Int32) = jI 938 ∧ (944 : Int32) = jI 944 ∧ (964 : Int32) = jI 964 ∧ (9999 : Int32) = jI 9999 ∧ (99999 : Int32) = jI 99999 ∧ (1000000 : Int32) = jI 1000000 := by decide
theorem jBt {a : Int} {n : Nat} (a1 : 0 ≤ a) (a2 : a < n) (hn : n < 2147483648) : (x_b (jI a) n = true) = True := eq_true (jI_b a1 a2 hn)
theorem jBo : (x_b (jI 0) 1 = true) = True := eq_true (by decide)
theorem tvz {x : Nat} {h : XH} {v2 : Int32} : f_X12_throwsIf x h (jI 0) v2 = some (jI 0, h) := tv_0
theorem tvo {x : Nat} {h : XH} {v2 : Int32} : f_X12_throwsIf x h (jI 1) v2 = some (jI 1, x_i h (x + 64) 0 v2) := tv_1
theorem gl_ {h : XH} {a j : Nat} {v : Int64} : (x_l h a j v).1 = h.1 := rfl
theorem gl2 (h : XH) (a j : Nat) (v : Int64) (b k : Nat) : (x_l h a j v).2.1 b k = if b = a ∧ k = j then v else h.2.1 b k := rfl
theorem cmp_s (a : Int64) : lg_cmp a a = jI 0 := cmp_0 rfl
theorem gil {h : XH} {a j : Nat} {v : Int32} {b k : Nat} : (x_i h a j v).2.1 b k = h.2.1 b k := rfl
theorem gir {h : XH} {a j : Nat} {v : Int32} : (x_i h a j v).2.2 = h.2.2 := rfl
theorem glr {h : XH} {a j : Nat} {v : Int64} : (x_l h a j v).2.2 = h.2.2 := rfl
theorem tnz {a : Int} : ((a.toNat : Nat) : Int) = if 0 ≤ a then a else 0 := by split <;> omega
/-! ===== the parts of the relation that a row leaves alone ===== -/
theorem CSt.d2 {x s : Nat} {K : XK} {h h' : XH} {w w' : Nat → Int} (c : CSt x K h s w) (eh : h'.1 (s + 1) = h.1 (s + 1)) (ew : ∀ k, 8 ≤ k → k < 164 → w' k = w k) : ∀ k : Nat, k < 156 → h'.1 (s + 1) k = jI (w' (8 + k)) := fun k hk => by
  rw [eh, ew (8 + k) (by omega) (by omega)]; exact c.2.1 k hk
theorem CSt.d3 {gh : Nat} {x s : Nat} {K : XK} {h h' : XH} {w w' : Nat → Int} (c : CSt x K h s w) (hI : WI gh w) (e0 : w' 0 = w 0) (e2 : h'.1 (s + 2) = h.1 (s + 2)) (e3 : h'.1 (s + 3) = h.1 (s + 3)) (ew : ∀ k, 164 ≤ k → k < 290 → w' k = w k) : ∀ j : Nat, (j : Int) < w' 0 → h'.1 (s + 2) j = jI (w' (164 + 21 * j)) ∧ ∀ d : Nat, (d : Int) < w' (164 + 21 * j) → h'.1 (s + 3) (20 * j + d) = jI (w' (165 + 21 * j + d)) := fun j hj => by
  have h6 : w 0 ≤ 6 := hI.1.2.1
  rw [e0] at hj
  have h20 := (hI.2.2.1 j hj).2.1
  rw [e2, e3, ew (164 + 21 * j) (by omega) (by omega)]
  refine ⟨(c.2.2.1 j hj).1, fun d hd => ?_⟩
  rw [ew (165 + 21 * j + d) (by omega) (by omega)]
  exact (c.2.2.1 j hj).2 d hd
theorem CSt.d4 {gh : Nat} {x s : Nat} {K : XK} {h h' : XH} {w w' : Nat → Int} (c : CSt x K h s w) (hI : WI gh w) (e1 : w' 1 = w 1) (eh : ∀ a, s + 10 ≤ a → a < s + 34 → h'.1 a = h.1 a) (ew : ∀ k, 290 ≤ k → k < 938 → w' k = w k) : ∀ p : Nat, (p : Int) < w' 1 → CPk h' (s + 10 + 3 * p) w' (290 + 81 * p) := fun p hp => by
  have h8 : w 1 ≤ 8 := hI.1.2.2.2.1
  rw [e1] at hp
  exact (c.2.2.2.1 p hp).c ((hI.2.2.2.1 p hp).pl (fun j hj => (hI.2.2.1 j hj).2.1)) (fun q h1 h2 => eh q (by omega) (by omega)) (fun k h1 h2 => ew k (by omega) (by omega))
theorem CSt.d5 {gh : Nat} {x s : Nat} {K : XK} {h h' : XH} {w w' : Nat → Int} (c : CSt x K h s w) (hI : WI gh w) (e4 : w' 4 = w 4) (eh : h'.1 (s + 7) = h.1 (s + 7)) (ew : ∀ k, 938 ≤ k → k < 944 → w' k = w k) : ∀ k : Nat, (k : Int) < w' 4 → h'.1 (s + 7) k = jI (w' (938 + k)) := fun k hk => by
  have h6 : w 4 ≤ 6 := hI.1.2.2.2.2.2.2.2.2.2.1
  rw [e4] at hk
  rw [eh, ew (938 + k) (by omega) (by omega)]
  exact c.2.2.2.2.1 k hk
theorem CSt.d6 {x s : Nat} {K : XK} {h h' : XH} {w w' : Nat → Int} (c : CSt x K h s w) (eh : h'.1 (s + 8) = h.1 (s + 8)) (ew : ∀ k, 964 ≤ k → k < 970 → w' k = w k) : ∀ k : Nat, k < 6 → h'.1 (s + 8) k = jI (w' (964 + k)) := fun k hk => by
  rw [eh, ew (964 + k) (by omega) (by omega)]
  exact c.2.2.2.2.2.1 k hk
theorem CSt.d7 {gh : Nat} {x s : Nat} {K : XK} {h h' : XH} {w w' : Nat → Int} (c : CSt x K h s w) (hI : WI gh w) (e5 : w' 5 = w 5) (eh : h'.1 (s + 9) = h.1 (s + 9)) (ew : ∀ k, 944 ≤ k → k < 964 → w' k = w k) : ∀ k : Nat, (k : Int) < w' 5 → h'.1 (s + 9) k = jI (w' (944 + k)) := fun k hk => by
  have h20 : w 5 ≤ 20 := hI.1.2.2.2.2.2.2.2.2.2.2.2.1
  rw [e5] at hk
  rw [eh, ew (944 + k) (by omega) (by omega)]
  exact c.2.2.2.2.2.2.1 k hk
theorem CSt.d8 {gh : Nat} {x s : Nat} {K : XK} {h h' : XH} {w w' : Nat → Int} (c : CSt x K h s w) (hI : WI gh w) (e2 : w' 2 = w 2) (er : h'.2.2 = h.2.2) (far : ∀ a, x + 77 ≤ a → h'.1 a = h.1 a) (ew : ∀ k, 970 ≤ k → k < 3523 → w' k = w k) : ∀ t : Nat, (t : Int) < w' 2 → ∃ r, h'.2.2 (s + 5) t = some r ∧ CTx x K h' r w' (970 + 851 * t) false := fun t ht => by
  have h3 : w 2 ≤ 3 := hI.1.2.2.2.2.2.1
  rw [e2] at ht
  obtain ⟨r, h1, h2⟩ := c.2.2.2.2.2.2.2.1 t ht
  have hx := hI.2.2.2.2.2.2.2.2.1 t ht
  exact ⟨r, by rw [er]; exact h1, h2.c ⟨hx.1, hx.2.1⟩ (fun _ _ _ => rfl) (fun a q1 q2 => far a (by have := h2.1; omega)) (fun k q1 q2 => ew k (by omega) (by omega))⟩
theorem CSt.d9 {gh : Nat} {x s : Nat} {K : XK} {h h' : XH} {w w' : Nat → Int} (c : CSt x K h s w) (hI : WI gh w) (e3 : w' 3 = w 3) (er : h'.2.2 = h.2.2) (far : ∀ a, x + 77 ≤ a → h'.1 a = h.1 a) (ew : ∀ k, 3523 ≤ k → k < 6076 → w' k = w k) : ∀ t : Nat, (t : Int) < w' 3 → ∃ r, h'.2.2 (s + 6) t = some r ∧ CTx x K h' r w' (3523 + 851 * t) true := fun t ht => by
  have h3 : w 3 ≤ 3 := hI.1.2.2.2.2.2.2.2.1
  rw [e3] at ht
  obtain ⟨r, h1, h2⟩ := c.2.2.2.2.2.2.2.2.1 t ht
  have hx := hI.2.2.2.2.2.2.2.2.2 t ht
  exact ⟨r, by rw [er]; exact h1, h2.c ⟨hx.1, hx.2.1⟩ (fun _ _ _ => rfl) (fun a q1 q2 => far a (by have := h2.1; omega)) (fun k q1 q2 => ew k (by omega) (by omega))⟩
theorem CSt.d10 {x s : Nat} {K : XK} {h h' : XH} {w : Nat → Int} (c : CSt x K h s w) (eh : ∀ a, s + 10 ≤ a → a < s + 34 → h'.1 a = h.1 a) : BB_ h' s := fun p hp => by
  rw [eh _ (by omega) (by omega)]
  exact c.2.2.2.2.2.2.2.2.2 p hp
/-- a row that leaves the image and the tape alone -/
theorem Inv.up {gh : Nat} {x : Nat} {K : XK} {h h' : XH} (I : Inv gh x K h) (hw : WI gh (wd x h')) (hs : CSt x K h' (x + 9) (wd x h')) (far : ∀ a, x + 77 ≤ a → h'.1 a = h.1 a) (e66 : h'.1 (x + 66) = h.1 (x + 66)) (e2 : h'.1 (x + 2) = h.1 (x + 2)) (e67 : h'.1 (x + 67) = h.1 (x + 67)) (f1 : h'.1 (x + 1) = h.1 (x + 1)) (m3 : h'.1 (x + 64) 3 = h.1 (x + 64) 3) (m5 : h'.1 (x + 64) 5 = h.1 (x + 64) 5) (m10 : h'.1 (x + 64) 10 = h.1 (x + 64) 10) (r : h'.2.2 = h.2.2) : Inv gh x K h' := by
  obtain ⟨hW, hS, hM, L, hL, t1, t2, t3, t4⟩ := I
  have ej : wj x h' = wj x h := by
    funext k
    unfold wj
    rw [e66]
  refine ⟨hw, hs, ?_, L, hL, by rw [f1]; exact t1, by rw [m5]; exact t2, by rw [m10, f1]; exact t3, fun k hk => by rw [e2, e67]; exact t4 k hk⟩
  rcases hM with ⟨q1, q2⟩ | ⟨r9, q1, q2, q3, q4, q5, q6⟩
  · exact Or.inl ⟨by rw [r]; exact q1, by rw [m3]; exact q2⟩
  · refine Or.inr ⟨r9, by rw [r]; exact q1, q2, q3, by rw [m3]; exact q4, by rw [ej]; exact q5, ?_⟩
    rw [ej]
    exact q6.c q5 (fun _ _ _ _ _ _ => rfl) (fun r h1 _ a h2 _ => far a (by omega)) (fun a h1 h2 => far a (by omega)) (by rw [r]) (by rw [r]) (fun _ _ => rfl)
/-- the world behind a write -/
theorem wd_i {x : Nat} {h : XH} {a j : Nat} {v : Int32} (k : Nat) (ha : a ≠ x + 65) : wd x (x_i h a j v) k = wd x h k := by
  unfold wd
  rw [gi_a (Ne.symm ha)]
theorem wd_s {x : Nat} {h : XH} {j : Nat} {z : Int} (k : Nat) (h1 : -2147483648 ≤ z) (h2 : z < 2147483648) : wd x (x_i h (x + 65) j (jI z)) k = if k = j then z else wd x h k := by
  unfold wd
  rw [gi_]
  by_cases e : k = j
  · rw [if_pos ⟨rfl, e⟩, if_pos e, jI_toInt h1 h2]
  · rw [if_neg (fun q => e q.2), if_neg e]
theorem wd_l {x : Nat} {h : XH} {a j : Nat} {v : Int64} (k : Nat) : wd x (x_l h a j v) k = wd x h k := rfl
