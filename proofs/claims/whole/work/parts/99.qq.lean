/-! ===== the text that is kept is a text ===== -/
theorem text9 {x i' : Nat} {ru : Bool} {c0 r0 r : XH} {E : List (Int × Int)} {p g d B : Nat} {w : Nat → Int} (ll : LL9 x ru i' c0 r0 E) (R : RS9 x r0 r p g E d) (hi : i' ≤ 10) (hE : E.length ≤ 400) (h0 : w B = i') (hB : ∀ q, 1 ≤ q → q < 851 → w (B + q) = wd x r (6076 + q)) : WTx w B ru := by
  have cell : ∀ q (z : Int), 1 ≤ q → q < 51 → -2147483648 ≤ z → z < 2147483648 → r0.1 (x + 65) (6076 + q) = jI z → w (B + q) = z := fun q z q1 q2 z1 z2 e => by
    rw [hB q q1 (by omega)]
    unfold wd
    rw [R.fw _ (by omega), e, jI_toInt z1 z2]
  have ev : ∀ k, k < E.length → w (B + 51 + 2 * k) = (E.getD k (0, 0)).1 ∧ w (B + 52 + 2 * k) = (E.getD k (0, 0)).2 := fun k hk => by
    obtain ⟨b1, b2⟩ := R.eb k hk
    obtain ⟨e1, e2⟩ := R.ev k hk
    refine ⟨?_, ?_⟩
    · rw [show B + 51 + 2 * k = B + (51 + 2 * k) by omega, hB _ (by omega) (by omega)]
      unfold wd
      rw [show 6076 + (51 + 2 * k) = 6127 + 2 * k by omega, e1, jI_toInt b1.1 b1.2]
    · rw [show B + 52 + 2 * k = B + (52 + 2 * k) by omega, hB _ (by omega) (by omega)]
      unfold wd
      rw [show 6076 + (52 + 2 * k) = 6128 + 2 * k by omega, e2, jI_toInt b2.1 b2.2]
  have ln : ∀ i, i < i' → ∃ (sg nu fa : Int) (a b : Nat), w (B + 1 + 5 * i) = sg ∧ w (B + 2 + 5 * i) = nu ∧ w (B + 3 + 5 * i) = fa ∧ w (B + 4 + 5 * i) = a ∧ w (B + 5 + 5 * i) = b ∧ (sg = 0 ∨ sg = 1) ∧ 0 ≤ nu ∧ nu ≤ 999 ∧ -1 ≤ fa ∧ fa < (if ru then 4 else 8) ∧ a ≤ b ∧ b ≤ E.length ∧ (i = 0 → a = 0) ∧ (1 ≤ i → w (B + 5 + 5 * (i - 1)) = a) ∧ (a = b ∨ trL ru (sg9 E a b) [] = some [true]) := fun i h => by
    obtain ⟨sg, nu, fa, a, b, q1, q2, q3, q4, q5, q6, q7, q8, q9, q10, q11, q12, q13, q14, q15, q16, q17, q18, q19⟩ := ll.2 i h
    have f8 : fa < 8 := by cases ru <;> simp at q13 <;> omega
    refine ⟨sg, nu, fa, a, b, ?_, ?_, ?_, ?_, ?_, q9, q10, q11, q12, q13, q14, q15, q16, fun z => ?_, q19⟩
    · rw [show B + 1 + 5 * i = B + (1 + 5 * i) by omega]
      exact cell _ _ (by omega) (by omega) (by omega) (by omega) (by rw [show 6076 + (1 + 5 * i) = 6077 + 5 * i by omega]; exact q4)
    · rw [show B + 2 + 5 * i = B + (2 + 5 * i) by omega]
      exact cell _ _ (by omega) (by omega) (by omega) (by omega) (by rw [show 6076 + (2 + 5 * i) = 6078 + 5 * i by omega]; exact q5)
    · rw [show B + 3 + 5 * i = B + (3 + 5 * i) by omega]
      exact cell _ _ (by omega) (by omega) (by omega) (by omega) (by rw [show 6076 + (3 + 5 * i) = 6079 + 5 * i by omega]; exact q6)
    · rw [show B + 4 + 5 * i = B + (4 + 5 * i) by omega]
      exact cell _ _ (by omega) (by omega) (by omega) (by omega) (by rw [show 6076 + (4 + 5 * i) = 6080 + 5 * i by omega]; exact q7)
    · rw [show B + 5 + 5 * i = B + (5 + 5 * i) by omega]
      exact cell _ _ (by omega) (by omega) (by omega) (by omega) (by rw [show 6076 + (5 + 5 * i) = 6081 + 5 * i by omega]; exact q8)
    · rw [show B + 5 + 5 * (i - 1) = B + (5 + 5 * (i - 1)) by omega]
      exact cell _ _ (by omega) (by omega) (by omega) (by omega) (by rw [show 6076 + (5 + 5 * (i - 1)) = 6081 + 5 * (i - 1) by omega]; exact q17 z)
  refine ⟨by omega, by omega, fun i h => ?_, fun h => ?_, fun i h => ?_⟩
  · obtain ⟨sg, nu, fa, a, b, e1, e2, e3, e4, e5, b1, b2, b3, b4, b5, b6, b7, b8, b9, b10⟩ := ln i (by omega)
    unfold WLn
    rw [e1, e2, e3, e4, e5]
    refine ⟨b1, b2, b3, b4, b5, by omega, by omega, by omega, ?_⟩
    rcases b10 with z | z
    · exact .inl (by omega)
    · right
      rw [show ((b : Int) - (a : Int)).toNat = b - a by omega, Int.toNat_natCast, tr_L ev _ _ _ (by omega)]
      exact z
  · obtain ⟨sg, nu, fa, a, b, e1, e2, e3, e4, e5, b1, b2, b3, b4, b5, b6, b7, b8, b9, b10⟩ := ln 0 (by omega)
    have := b8 rfl
    rw [show B + 4 + 5 * 0 = B + 4 by omega] at e4
    omega
  · obtain ⟨sg, nu, fa, a, b, e1, e2, e3, e4, e5, b1, b2, b3, b4, b5, b6, b7, b8, b9, b10⟩ := ln (i + 1) (by omega)
    have := b9 (by omega)
    rw [show i + 1 - 1 = i by omega] at this
    rw [this, show B + 9 + 5 * i = B + 4 + 5 * (i + 1) by omega, e4]
