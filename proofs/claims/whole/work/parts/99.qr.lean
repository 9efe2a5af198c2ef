/-! ===== a text more ===== -/
theorem Inv.kL {gh x n cn : Nat} {K K' : XK} {h h' : XH} (T : x_T x K h) (I : Inv gh x K h) (hz : ∀ q, n ≤ q → (K q).1 = 0) (hn : x + 77 ≤ n) (hK : ∀ a, a < n → K' a = K a) (ha : ∀ a, a < n → a ≠ x + 1 → a ≠ x + 3 → a ≠ x + 4 → a ≠ x + 5 → a ≠ x + 6 → a ≠ x + 7 → a ≠ x + 8 → a ≠ x + 9 → a ≠ x + 64 → a ≠ x + 65 → h'.1 a = h.1 a) (h9 : ∀ k, k ≠ 8 → h'.1 (x + 9) k = h.1 (x + 9) k) (h8 : h'.1 (x + 9) 8 = jI ((cn : Int) + 1)) (hc : wd x h 2 = cn) (c3 : cn < 3) (hw : ∀ k, k < 6076 → k ≠ 2 → (k < 970 + 851 * cn ∨ 970 + 851 * cn + 851 ≤ k) → h'.1 (x + 65) k = h.1 (x + 65) k) (hv : wd x h' 2 = cn + 1) (m3 : h'.1 (x + 64) 3 = h.1 (x + 64) 3) (r : ∀ a, a < n → a ≠ x + 9 + 5 → h'.2.2 a = h.2.2 a) (rk : ∀ k, k ≠ cn → h'.2.2 (x + 9 + 5) k = h.2.2 (x + 9 + 5) k) (rn : h'.2.2 (x + 9 + 5) cn = some n) (wt : WTx (wd x h') (970 + 851 * cn) false) (ct : CTx x K' h' n (wd x h') (970 + 851 * cn) false) (ht : Tp_ x h') : Inv gh x K' h' := by
  obtain ⟨hW, hS, hM, -⟩ := I
  have ew : ∀ k, k < 6076 → k ≠ 2 → (k < 970 + 851 * cn ∨ 970 + 851 * cn + 851 ≤ k) → wd x h' k = wd x h k := fun k hk k2 kb => by
    unfold wd
    rw [hw k hk k2 kb]
  have ej : wj x h' = wj x h := by
    funext k
    unfold wj
    rw [ha _ (by omega) (by omega) (by omega) (by omega) (by omega) (by omega) (by omega) (by omega) (by omega) (by omega) (by omega)]
  have lo : ∀ a, a < n → x + 10 ≤ a → a ≠ x + 64 → a ≠ x + 65 → h'.1 a = h.1 a := fun a q1 q2 q3 q4 => ha a q1 (by omega) (by omega) (by omega) (by omega) (by omega) (by omega) (by omega) (by omega) q3 q4
  have el : ∀ k, k < 970 → k ≠ 2 → wd x h' k = wd x h k := fun k hk k2 => ew k (by omega) k2 (by omega)
  obtain ⟨g1, g2, g3, g4, g5, g6, g7, g8, g9⟩ := id hW
  obtain ⟨i1, i2, i3, i4, i5, i6, i7, i8, i9, i10, i11, i12, i13, i14, i15, i16⟩ := id g1
  have hd : ∀ j : Nat, (j : Int) < wd x h 0 → wd x h (164 + 21 * j) ≤ 20 := fun j hj => (g3 j hj).2.1
  have eO : ∀ t : Nat, (t : Int) < wd x h 3 → ∀ k, 3523 + 851 * t ≤ k → k < 3523 + 851 * t + 851 → wd x h' k = wd x h k := fun t ht k q1 q2 => ew k (by omega) (by omega) (by omega)
  have eT : ∀ t : Nat, t < cn → ∀ k, 970 + 851 * t ≤ k → k < 970 + 851 * t + 851 → wd x h' k = wd x h k := fun t ht k q1 q2 => ew k (by omega) (by omega) (by omega)
  have wT : ∀ t : Nat, (t : Int) < wd x h' 2 → WTx (wd x h') (970 + 851 * t) false := fun t ht => by
    by_cases c : t = cn
    · rw [c]; exact wt
    · exact (g9.1 t (by omega)).c (eT t (by omega))
  have wO : ∀ t : Nat, (t : Int) < wd x h' 3 → WTx (wd x h') (3523 + 851 * t) true := fun t ht => by
    rw [el 3 (by omega) (by omega)] at ht
    exact (g9.2 t ht).c (eO t ht)
  have cx : ∀ r, x + 77 ≤ r → K r = (11, 0) → ∀ a, r ≤ a → a ≤ r + 4 → K' a = K a := fun r q1 q2 a q3 q4 => hK a (by have := up11 T hz q2; omega)
  have cy : ∀ r, x + 77 ≤ r → K r = (11, 0) → ∀ a, r ≤ a → a ≤ r + 4 → h'.1 a = h.1 a := fun r q1 q2 a q3 q4 => lo a (by have := up11 T hz q2; omega) (by omega) (by omega) (by omega)
  refine ⟨⟨?_, g2.c (fun k _ hk => el k (by omega) (by omega)), g3.c g1 (el 0 (by omega) (by omega)) (fun k _ hk => el k (by omega) (by omega)), g4.c g1 g3 (el 0 (by omega) (by omega)) (el 1 (by omega) (by omega)) (by rw [el 6 (by omega) (by omega)]; exact Int.le_refl _) (by rw [el 7 (by omega) (by omega)]; exact Int.le_refl _) (fun k _ hk => el k (by omega) (by omega)), g5.c g1 (el 1 (by omega) (by omega)) (el 7 (by omega) (by omega)) (fun k _ hk => el k (by omega) (by omega)), g6.c g1 (el 4 (by omega) (by omega)) (fun k _ hk => el k (by omega) (by omega)), g7.c g1 (el 5 (by omega) (by omega)) (fun k _ hk => el k (by omega) (by omega)), g8.c (fun k _ hk => el k (by omega) (by omega)), ⟨wT, wO⟩⟩, ?_, ?_, ht⟩
  · unfold WC
    rw [el 0 (by omega) (by omega), el 1 (by omega) (by omega), el 3 (by omega) (by omega), el 4 (by omega) (by omega), el 5 (by omega) (by omega), el 6 (by omega) (by omega), el 7 (by omega) (by omega), hv]
    exact ⟨by omega, by omega, by omega, by omega, by omega, by omega, by omega, by omega, by omega, by omega, by omega, by omega, by omega, by omega, by omega, by omega⟩
  · obtain ⟨⟨a1, a2, a3, a4, a5, a6, a7, a8⟩, c2, c3', c4, c5, c6, c7, c8, c9, c10⟩ := hS
    unfold CSt
    have b0 := el 0 (by omega) (by omega)
    have b1 := el 1 (by omega) (by omega)
    have b3 := el 3 (by omega) (by omega)
    have b4 := el 4 (by omega) (by omega)
    have b5 := el 5 (by omega) (by omega)
    have b6 := el 6 (by omega) (by omega)
    have b7 := el 7 (by omega) (by omega)
    rw [b0, b1, b4, b5, b6, b7, lo (x + 9 + 1) (by omega) (by omega) (by omega) (by omega), lo (x + 9 + 2) (by omega) (by omega) (by omega) (by omega), lo (x + 9 + 3) (by omega) (by omega) (by omega) (by omega), lo (x + 9 + 7) (by omega) (by omega) (by omega) (by omega), lo (x + 9 + 8) (by omega) (by omega) (by omega) (by omega), lo (x + 9 + 9) (by omega) (by omega) (by omega) (by omega)]
    have hN : ∀ t : Nat, (t : Int) < wd x h' 2 → ∃ r, h'.2.2 (x + 9 + 5) t = some r ∧ CTx x K' h' r (wd x h') (970 + 851 * t) false := fun t ht => by
      by_cases c : t = cn
      · rw [c]; exact ⟨n, rn, ct⟩
      · obtain ⟨r, h1, h2⟩ := c8 t (by omega)
        exact ⟨r, by rw [rk t c]; exact h1, h2.c ⟨(g9.1 t (by omega)).1, (g9.1 t (by omega)).2.1⟩ (cx r h2.1 h2.2.1) (cy r h2.1 h2.2.1) (eT t (by omega))⟩
    have hO : ∀ t : Nat, (t : Int) < wd x h' 3 → ∃ r, h'.2.2 (x + 9 + 6) t = some r ∧ CTx x K' h' r (wd x h') (3523 + 851 * t) true := fun t ht => by
      rw [b3] at ht
      obtain ⟨r', h1, h2⟩ := c9 t ht
      exact ⟨r', by rw [r _ (by omega) (by omega)]; exact h1, h2.c ⟨(g9.2 t ht).1, (g9.2 t ht).2.1⟩ (cx r' h2.1 h2.2.1) (cy r' h2.1 h2.2.1) (eO t ht)⟩
    refine ⟨⟨by rw [h9 1 (by omega)]; exact a1, by rw [h9 4 (by omega)]; exact a2, by rw [h9 6 (by omega)]; exact a3, by rw [h9 7 (by omega)]; exact a4, by rw [h8, hv], by rw [h9 10 (by omega), b3]; exact a6, by rw [h9 12 (by omega)]; exact a7, by rw [h9 15 (by omega)]; exact a8⟩, fun k hk => ?_, fun j hj => ?_, fun p hp => ?_, fun k hk => ?_, fun k hk => ?_, fun k hk => ?_, hN, hO, fun p hp => ?_⟩
    · rw [el (8 + k) (by omega) (by omega)]; exact c2 k hk
    · have h20 := hd j hj
      rw [el (164 + 21 * j) (by omega) (by omega)]
      refine ⟨(c3' j hj).1, fun d hd9 => ?_⟩
      rw [el (165 + 21 * j + d) (by omega) (by omega)]
      exact (c3' j hj).2 d hd9
    · exact (c4 p hp).c ((g4 p hp).pl hd) (fun q h1 h2 => lo q (by omega) (by omega) (by omega) (by omega)) (fun k h1 h2 => el k (by omega) (by omega))
    · rw [el (938 + k) (by omega) (by omega)]; exact c5 k hk
    · rw [el (964 + k) (by omega) (by omega)]; exact c6 k hk
    · rw [el (944 + k) (by omega) (by omega)]; exact c7 k hk
    · rw [lo (x + 9 + 10 + 3 * p) (by omega) (by omega) (by omega) (by omega)]; exact c10 p hp
  · rcases hM with ⟨q1, q2⟩ | ⟨R, q1, q2, q3, q4, q5, q6⟩
    · exact Or.inl ⟨by rw [r _ (by omega) (by omega)]; exact q1, by rw [m3]; exact q2⟩
    · have u8 := up8 T hz q3
      refine Or.inr ⟨R, by rw [r _ (by omega) (by omega)]; exact q1, q2, by rw [hK R (by omega)]; exact q3, by rw [m3]; exact q4, by rw [ej]; exact q5, ?_⟩
      rw [ej]
      exact q6.c q5 cx cy (fun a q1 q2 => lo a (by omega) (by omega) (by omega) (by omega)) (r _ (by omega) (by omega)) (r _ (by omega) (by omega)) (fun _ _ => rfl)
theorem Inv.kR {gh x n cn : Nat} {K K' : XK} {h h' : XH} (T : x_T x K h) (I : Inv gh x K h) (hz : ∀ q, n ≤ q → (K q).1 = 0) (hn : x + 77 ≤ n) (hK : ∀ a, a < n → K' a = K a) (ha : ∀ a, a < n → a ≠ x + 1 → a ≠ x + 3 → a ≠ x + 4 → a ≠ x + 5 → a ≠ x + 6 → a ≠ x + 7 → a ≠ x + 8 → a ≠ x + 9 → a ≠ x + 64 → a ≠ x + 65 → h'.1 a = h.1 a) (h9 : ∀ k, k ≠ 10 → h'.1 (x + 9) k = h.1 (x + 9) k) (h8 : h'.1 (x + 9) 10 = jI ((cn : Int) + 1)) (hc : wd x h 3 = cn) (c3 : cn < 3) (hw : ∀ k, k < 6076 → k ≠ 3 → (k < 3523 + 851 * cn ∨ 3523 + 851 * cn + 851 ≤ k) → h'.1 (x + 65) k = h.1 (x + 65) k) (hv : wd x h' 3 = cn + 1) (m3 : h'.1 (x + 64) 3 = h.1 (x + 64) 3) (r : ∀ a, a < n → a ≠ x + 9 + 6 → h'.2.2 a = h.2.2 a) (rk : ∀ k, k ≠ cn → h'.2.2 (x + 9 + 6) k = h.2.2 (x + 9 + 6) k) (rn : h'.2.2 (x + 9 + 6) cn = some n) (wt : WTx (wd x h') (3523 + 851 * cn) true) (ct : CTx x K' h' n (wd x h') (3523 + 851 * cn) true) (ht : Tp_ x h') : Inv gh x K' h' := by
  obtain ⟨hW, hS, hM, -⟩ := I
  have ew : ∀ k, k < 6076 → k ≠ 3 → (k < 3523 + 851 * cn ∨ 3523 + 851 * cn + 851 ≤ k) → wd x h' k = wd x h k := fun k hk k2 kb => by
    unfold wd
    rw [hw k hk k2 kb]
  have ej : wj x h' = wj x h := by
    funext k
    unfold wj
    rw [ha _ (by omega) (by omega) (by omega) (by omega) (by omega) (by omega) (by omega) (by omega) (by omega) (by omega) (by omega)]
  have lo : ∀ a, a < n → x + 10 ≤ a → a ≠ x + 64 → a ≠ x + 65 → h'.1 a = h.1 a := fun a q1 q2 q3 q4 => ha a q1 (by omega) (by omega) (by omega) (by omega) (by omega) (by omega) (by omega) (by omega) q3 q4
  have el : ∀ k, k < 970 → k ≠ 3 → wd x h' k = wd x h k := fun k hk k2 => ew k (by omega) k2 (by omega)
  obtain ⟨g1, g2, g3, g4, g5, g6, g7, g8, g9⟩ := id hW
  obtain ⟨i1, i2, i3, i4, i5, i6, i7, i8, i9, i10, i11, i12, i13, i14, i15, i16⟩ := id g1
  have hd : ∀ j : Nat, (j : Int) < wd x h 0 → wd x h (164 + 21 * j) ≤ 20 := fun j hj => (g3 j hj).2.1
  have eO : ∀ t : Nat, (t : Int) < wd x h 2 → ∀ k, 970 + 851 * t ≤ k → k < 970 + 851 * t + 851 → wd x h' k = wd x h k := fun t ht k q1 q2 => ew k (by omega) (by omega) (by omega)
  have eT : ∀ t : Nat, t < cn → ∀ k, 3523 + 851 * t ≤ k → k < 3523 + 851 * t + 851 → wd x h' k = wd x h k := fun t ht k q1 q2 => ew k (by omega) (by omega) (by omega)
  have wT : ∀ t : Nat, (t : Int) < wd x h' 3 → WTx (wd x h') (3523 + 851 * t) true := fun t ht => by
    by_cases c : t = cn
    · rw [c]; exact wt
    · exact (g9.2 t (by omega)).c (eT t (by omega))
  have wO : ∀ t : Nat, (t : Int) < wd x h' 2 → WTx (wd x h') (970 + 851 * t) false := fun t ht => by
    rw [el 2 (by omega) (by omega)] at ht
    exact (g9.1 t ht).c (eO t ht)
  have cx : ∀ r, x + 77 ≤ r → K r = (11, 0) → ∀ a, r ≤ a → a ≤ r + 4 → K' a = K a := fun r q1 q2 a q3 q4 => hK a (by have := up11 T hz q2; omega)
  have cy : ∀ r, x + 77 ≤ r → K r = (11, 0) → ∀ a, r ≤ a → a ≤ r + 4 → h'.1 a = h.1 a := fun r q1 q2 a q3 q4 => lo a (by have := up11 T hz q2; omega) (by omega) (by omega) (by omega)
  refine ⟨⟨?_, g2.c (fun k _ hk => el k (by omega) (by omega)), g3.c g1 (el 0 (by omega) (by omega)) (fun k _ hk => el k (by omega) (by omega)), g4.c g1 g3 (el 0 (by omega) (by omega)) (el 1 (by omega) (by omega)) (by rw [el 6 (by omega) (by omega)]; exact Int.le_refl _) (by rw [el 7 (by omega) (by omega)]; exact Int.le_refl _) (fun k _ hk => el k (by omega) (by omega)), g5.c g1 (el 1 (by omega) (by omega)) (el 7 (by omega) (by omega)) (fun k _ hk => el k (by omega) (by omega)), g6.c g1 (el 4 (by omega) (by omega)) (fun k _ hk => el k (by omega) (by omega)), g7.c g1 (el 5 (by omega) (by omega)) (fun k _ hk => el k (by omega) (by omega)), g8.c (fun k _ hk => el k (by omega) (by omega)), ⟨wO, wT⟩⟩, ?_, ?_, ht⟩
  · unfold WC
    rw [el 0 (by omega) (by omega), el 1 (by omega) (by omega), el 2 (by omega) (by omega), el 4 (by omega) (by omega), el 5 (by omega) (by omega), el 6 (by omega) (by omega), el 7 (by omega) (by omega), hv]
    exact ⟨by omega, by omega, by omega, by omega, by omega, by omega, by omega, by omega, by omega, by omega, by omega, by omega, by omega, by omega, by omega, by omega⟩
  · obtain ⟨⟨a1, a2, a3, a4, a5, a6, a7, a8⟩, c2, c3', c4, c5, c6, c7, c8, c9, c10⟩ := hS
    unfold CSt
    have b0 := el 0 (by omega) (by omega)
    have b1 := el 1 (by omega) (by omega)
    have b3 := el 2 (by omega) (by omega)
    have b4 := el 4 (by omega) (by omega)
    have b5 := el 5 (by omega) (by omega)
    have b6 := el 6 (by omega) (by omega)
    have b7 := el 7 (by omega) (by omega)
    rw [b0, b1, b4, b5, b6, b7, lo (x + 9 + 1) (by omega) (by omega) (by omega) (by omega), lo (x + 9 + 2) (by omega) (by omega) (by omega) (by omega), lo (x + 9 + 3) (by omega) (by omega) (by omega) (by omega), lo (x + 9 + 7) (by omega) (by omega) (by omega) (by omega), lo (x + 9 + 8) (by omega) (by omega) (by omega) (by omega), lo (x + 9 + 9) (by omega) (by omega) (by omega) (by omega)]
    have hN : ∀ t : Nat, (t : Int) < wd x h' 3 → ∃ r, h'.2.2 (x + 9 + 6) t = some r ∧ CTx x K' h' r (wd x h') (3523 + 851 * t) true := fun t ht => by
      by_cases c : t = cn
      · rw [c]; exact ⟨n, rn, ct⟩
      · obtain ⟨r, h1, h2⟩ := c9 t (by omega)
        exact ⟨r, by rw [rk t c]; exact h1, h2.c ⟨(g9.2 t (by omega)).1, (g9.2 t (by omega)).2.1⟩ (cx r h2.1 h2.2.1) (cy r h2.1 h2.2.1) (eT t (by omega))⟩
    have hO : ∀ t : Nat, (t : Int) < wd x h' 2 → ∃ r, h'.2.2 (x + 9 + 5) t = some r ∧ CTx x K' h' r (wd x h') (970 + 851 * t) false := fun t ht => by
      rw [b3] at ht
      obtain ⟨r', h1, h2⟩ := c8 t ht
      exact ⟨r', by rw [r _ (by omega) (by omega)]; exact h1, h2.c ⟨(g9.1 t ht).1, (g9.1 t ht).2.1⟩ (cx r' h2.1 h2.2.1) (cy r' h2.1 h2.2.1) (eO t ht)⟩
    refine ⟨⟨by rw [h9 1 (by omega)]; exact a1, by rw [h9 4 (by omega)]; exact a2, by rw [h9 6 (by omega)]; exact a3, by rw [h9 7 (by omega)]; exact a4, by rw [h9 8 (by omega), b3]; exact a5, by rw [h8, hv], by rw [h9 12 (by omega)]; exact a7, by rw [h9 15 (by omega)]; exact a8⟩, fun k hk => ?_, fun j hj => ?_, fun p hp => ?_, fun k hk => ?_, fun k hk => ?_, fun k hk => ?_, hO, hN, fun p hp => ?_⟩
    · rw [el (8 + k) (by omega) (by omega)]; exact c2 k hk
    · have h20 := hd j hj
      rw [el (164 + 21 * j) (by omega) (by omega)]
      refine ⟨(c3' j hj).1, fun d hd9 => ?_⟩
      rw [el (165 + 21 * j + d) (by omega) (by omega)]
      exact (c3' j hj).2 d hd9
    · exact (c4 p hp).c ((g4 p hp).pl hd) (fun q h1 h2 => lo q (by omega) (by omega) (by omega) (by omega)) (fun k h1 h2 => el k (by omega) (by omega))
    · rw [el (938 + k) (by omega) (by omega)]; exact c5 k hk
    · rw [el (964 + k) (by omega) (by omega)]; exact c6 k hk
    · rw [el (944 + k) (by omega) (by omega)]; exact c7 k hk
    · rw [lo (x + 9 + 10 + 3 * p) (by omega) (by omega) (by omega) (by omega)]; exact c10 p hp
  · rcases hM with ⟨q1, q2⟩ | ⟨R, q1, q2, q3, q4, q5, q6⟩
    · exact Or.inl ⟨by rw [r _ (by omega) (by omega)]; exact q1, by rw [m3]; exact q2⟩
    · have u8 := up8 T hz q3
      refine Or.inr ⟨R, by rw [r _ (by omega) (by omega)]; exact q1, q2, by rw [hK R (by omega)]; exact q3, by rw [m3]; exact q4, by rw [ej]; exact q5, ?_⟩
      rw [ej]
      exact q6.c q5 cx cy (fun a q1 q2 => lo a (by omega) (by omega) (by omega) (by omega)) (r _ (by omega) (by omega)) (r _ (by omega) (by omega)) (fun _ _ => rfl)
/-- the component's text beside the reference's -/
theorem ctx9 {x i' n : Nat} {ru : Bool} {c0 r0 c r hh : XH} {K' : XK} {E : List (Int × Int)} {j p g d B : Nat} {w : Nat → Int} (ll : LL9 x ru i' c0 r0 E) (R : RS9 x r0 r p g E d) (C : CS9 x ru c0 c j E) (hi : i' ≤ 10) (hE : E.length ≤ 400) (h0 : w B = i') (hB : ∀ q, 1 ≤ q → q < 851 → w (B + q) = wd x r (6076 + q)) (hn : x + 77 ≤ n) (k0 : K' n = (11, 0)) (k1 : K' (n + 1) = (14, i')) (k2 : K' (n + 2) = (14, i')) (k3 : K' (n + 3) = (14, i')) (k4 : K' (n + 4) = (14, E.length)) (r1 : ∀ k, k < i' → hh.1 (n + 1) k = c.1 (x + 5) k) (r2 : ∀ k, k < i' → hh.1 (n + 2) k = c.1 (x + 6) k) (r3 : ∀ k, k < i' → hh.1 (n + 3) k = c.1 (x + 7) k) (r4 : ∀ k, k < E.length → hh.1 (n + 4) k = c.1 (x + 8) k) : CTx x K' hh n w B ru := by
  have cell : ∀ q (z : Int), 1 ≤ q → q < 51 → -2147483648 ≤ z → z < 2147483648 → r0.1 (x + 65) (6076 + q) = jI z → w (B + q) = z := fun q z q1 q2 z1 z2 e => by
    rw [hB q q1 (by omega)]
    unfold wd
    rw [R.fw _ (by omega), e, jI_toInt z1 z2]
  have ev : ∀ k, k < E.length → w (B + 51 + 2 * k) = (E.getD k (0, 0)).1 ∧ w (B + 52 + 2 * k) = (E.getD k (0, 0)).2 := fun k hk => by
    obtain ⟨b1, b2⟩ := R.eb k hk
    obtain ⟨e1, e2⟩ := R.ev k hk
    refine ⟨?_, ?_⟩
    · rw [show B + 51 + 2 * k = B + (51 + 2 * k) by omega, hB _ (by omega) (by omega)]
      unfold wd
      rw [show 6076 + (51 + 2 * k) = 6127 + 2 * k by omega, e1, jI_toInt b1.1 b1.2]
    · rw [show B + 52 + 2 * k = B + (52 + 2 * k) by omega, hB _ (by omega) (by omega)]
      unfold wd
      rw [show 6076 + (52 + 2 * k) = 6128 + 2 * k by omega, e2, jI_toInt b2.1 b2.2]
  have e0 : (w B).toNat = i' := by rw [h0]; exact Int.toNat_natCast i'
  refine ⟨hn, k0, by rw [e0]; exact k1, by rw [e0]; exact k2, by rw [e0]; exact k3, by rw [k4], by rw [k4]; exact hE, fun i h => ?_, fun k hk => ?_⟩
  · have hi2 : i < i' := by omega
    obtain ⟨sg, nu, fa, a, b, q1, q2, q3, q4, q5, q6, q7, q8, q9, q10, q11, q12, q13, q14, q15, -⟩ := ll.2 i hi2
    have f8 : fa < 8 := by cases ru <;> simp at q13 <;> omega
    have w1 : w (B + 1 + 5 * i) = sg := by
      rw [show B + 1 + 5 * i = B + (1 + 5 * i) by omega]
      exact cell _ _ (by omega) (by omega) (by omega) (by omega) (by rw [show 6076 + (1 + 5 * i) = 6077 + 5 * i by omega]; exact q4)
    have w2 : w (B + 2 + 5 * i) = nu := by
      rw [show B + 2 + 5 * i = B + (2 + 5 * i) by omega]
      exact cell _ _ (by omega) (by omega) (by omega) (by omega) (by rw [show 6076 + (2 + 5 * i) = 6078 + 5 * i by omega]; exact q5)
    have w3 : w (B + 3 + 5 * i) = fa := by
      rw [show B + 3 + 5 * i = B + (3 + 5 * i) by omega]
      exact cell _ _ (by omega) (by omega) (by omega) (by omega) (by rw [show 6076 + (3 + 5 * i) = 6079 + 5 * i by omega]; exact q6)
    have w5 : w (B + 5 + 5 * i) = b := by
      rw [show B + 5 + 5 * i = B + (5 + 5 * i) by omega]
      exact cell _ _ (by omega) (by omega) (by omega) (by omega) (by rw [show 6076 + (5 + 5 * i) = 6081 + 5 * i by omega]; exact q8)
    rw [w1, w2, w3, w5, k4, r1 i hi2, r2 i hi2, r3 i hi2, C.fr _ (by omega) (by omega), C.fr _ (by omega) (by omega), C.fr _ (by omega) (by omega)]
    exact ⟨q1, q2, q3, by show (b : Int) ≤ (E.length : Int); omega⟩
  · rw [k4] at hk
    obtain ⟨e1, e2⟩ := ev k hk
    rw [r4 k hk, C.ev k hk, e1, e2]
