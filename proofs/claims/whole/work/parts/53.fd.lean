/-! ===== feed, the row ===== -/
theorem Inv.tq {gh : Nat} {x : Nat} {K : XK} {h h' : XH} (I : Inv gh x K h) (ha : ∀ a, a ≠ x + 1 → a ≠ x + 2 → a ≠ x + 64 → a ≠ x + 67 → a ≠ x + 68 → h'.1 a = h.1 a) (m3 : h'.1 (x + 64) 3 = h.1 (x + 64) 3) (r : h'.2.2 = h.2.2) (ht : Tp_ x h') : Inv gh x K h' := by
  obtain ⟨hW, hS, hM, -⟩ := I
  have ew : wd x h' = wd x h := by
    funext k
    unfold wd
    rw [ha _ (by omega) (by omega) (by omega) (by omega) (by omega)]
  have ej : wj x h' = wj x h := by
    funext k
    unfold wj
    rw [ha _ (by omega) (by omega) (by omega) (by omega) (by omega)]
  refine ⟨by rw [ew]; exact hW, ?_, ?_, ht⟩
  · rw [ew]
    exact hS.c hW (fun _ _ _ _ _ _ => rfl) (fun r h1 _ a h2 _ => ha a (by omega) (by omega) (by omega) (by omega) (by omega)) (fun a h1 h2 => ha a (by omega) (by omega) (by omega) (by omega) (by omega)) (by rw [r]) (by rw [r]) (fun _ _ => rfl)
  rcases hM with ⟨q1, q2⟩ | ⟨r9, q1, q2, q3, q4, q5, q6⟩
  · exact Or.inl ⟨by rw [r]; exact q1, by rw [m3]; exact q2⟩
  · refine Or.inr ⟨r9, by rw [r]; exact q1, q2, q3, by rw [m3]; exact q4, by rw [ej]; exact q5, ?_⟩
    rw [ej]
    exact q6.c q5 (fun _ _ _ _ _ _ => rfl) (fun r h1 _ a h2 _ => ha a (by omega) (by omega) (by omega) (by omega) (by omega)) (fun a h1 h2 => ha a (by omega) (by omega) (by omega) (by omega) (by omega)) (by rw [r]) (by rw [r]) (fun _ _ => rfl)
/-- feed -/
theorem P_row0 {gh : Nat} {x : Nat} {K : XK} {h : XH} (I : Inv gh x K h) (a1 a2 a3 a4 a5 : Int32) : ∃ h', f_row0 x h a1 a2 a3 a4 a5 = some h' ∧ Inv gh x K h' := by
  obtain ⟨L, hL, t1, t2, t3, t4⟩ := id I.2.2.2
  obtain ⟨z, hz⟩ := by_f
  by_cases c : L + 20 ≤ 400
  · have eC := c_feed (x := x) (h := h) (a1 := a1) (a2 := a2) (a3 := a3) (a4 := a4) (a5 := a5) c t1 (fun v i hi => (hz v i hi).2.2.1)
    have eR := r_feed (x := x) (H := ad_ x L (fun k => z (fa_ a1 a2 a3 a4 a5 (k / 4)) (k % 4)) 20 h) (a1 := a1) (a2 := a2) (a3 := a3) (a4 := a4) (a5 := a5) c (by rw [ad_n (by omega) (by omega), t2]) (fun v i hi => (hz v i hi).2.2.2)
    refine ⟨x_i (wr_ (x + 67) L (fun k => sg_ (z (fa_ a1 a2 a3 a4 a5 (k / 4)) (k % 4))) 20 (x_i (x_i (x_i (x_i (x_i (x_i (ad_ x L (fun k => z (fa_ a1 a2 a3 a4 a5 (k / 4)) (k % 4)) 20 h) (x + 64) 0 (jI 0)) (x + 68) 0 a1) (x + 68) 1 a2) (x + 68) 2 a3) (x + 68) 3 a4) (x + 68) 4 a5)) (x + 64) 5 (jI ((L + 20 : Nat) : Int)), ?_, ?_⟩
    · unfold f_row0
      rw [eC, Option.bind_some, eR, Option.bind_some, if_pos rfl]
    have hb : ∀ k, k < 20 → 0 ≤ z (fa_ a1 a2 a3 a4 a5 (k / 4)) (k % 4) ∧ z (fa_ a1 a2 a3 a4 a5 (k / 4)) (k % 4) < 256 := fun k hk => ⟨(hz _ _ (by omega)).1, (hz _ _ (by omega)).2.1⟩
    refine I.tq (fun a h1 h2 h3 h4 h5 => ?_) ?_ ?_ ⟨L + 20, c, ?_, ?_, ?_, fun k hk => ?_⟩
    · rw [gi_n h3, wr_n h4, gi_n h5, gi_n h5, gi_n h5, gi_n h5, gi_n h5, gi_n h3, ad_n h1 h2]
    · rw [gi_k (by decide), wr_n (by omega), gi_n (by omega), gi_n (by omega), gi_n (by omega), gi_n (by omega), gi_n (by omega), gi_k (by decide), ad_n (by omega) (by omega)]
    · rw [gir, wr_2]
      show (ad_ _ _ _ _ _).2.2 = _
      rw [ad_2]
    · rw [gi_n (by omega), wr_n (by omega), gi_n (by omega), gi_n (by omega), gi_n (by omega), gi_n (by omega), gi_n (by omega), gi_n (by omega), ad_l t1]
    · rw [gi_s]
    · rw [gi_k (by decide), wr_n (by omega), gi_n (by omega), gi_n (by omega), gi_n (by omega), gi_n (by omega), gi_n (by omega), gi_k (by decide), ad_n (by omega) (by omega), gi_n (by omega), wr_n (by omega), gi_n (by omega), gi_n (by omega), gi_n (by omega), gi_n (by omega), gi_n (by omega), gi_n (by omega), ad_k (by decide)]
      exact t3
    · rw [gi_n (by omega), wr_n (by omega), gi_n (by omega), gi_n (by omega), gi_n (by omega), gi_n (by omega), gi_n (by omega), gi_n (by omega), gi_n (by omega)]
      by_cases e : k < L
      · rw [ad_o e, wr_o (Or.inl e), gi_n (by omega), gi_n (by omega), gi_n (by omega), gi_n (by omega), gi_n (by omega), gi_n (by omega), ad_n (by omega) (by omega)]
        exact t4 k e
      · obtain ⟨j, rfl⟩ : ∃ j, k = L + j := ⟨k - L, by omega⟩
        rw [ad_i (by omega), wr_i (by omega)]
        exact ⟨_, (hb j (by omega)).1, (hb j (by omega)).2, rfl, rfl⟩
  · refine ⟨x_i h (x + 64) 0 0, ?_, I.fr fr_0⟩
    have rm : f_X8_hasRoomForFive x h = 0 := by
      unfold f_X8_hasRoomForFive
      rw [t1, show (20 : Int32) = jI 20 from rfl, jI_add]
      exact if_pos ((jI_lt (by omega) (by omega) (by omega) (by omega)).mpr (show (400 : Int) < (L : Int) + 20 by omega))
    have c0 : (x_i h (x + 64) 0 0).1 (x + 64) 5 = jI (L : Int) := by rw [gi_k (by decide), t2]
    have a20 : jI (L : Int) + 20 = jI ((L : Int) + 20) := by rw [show (20 : Int32) = jI 20 from rfl, jI_add]
    have le : ¬ jI ((L : Int) + 20) ≤ 400 := fun e => absurd ((jI_le (by omega) (by omega) (by omega) (by omega)).mp (show jI ((L : Int) + 20) ≤ jI 400 from e)) (by omega)
    unfold f_row0 f_X11_feed f_X12_feed
    simp only [x_let]
    rw [rm, if_pos rfl, Option.bind_some, c0, a20, if_neg le, Option.bind_some, if_pos rfl]
