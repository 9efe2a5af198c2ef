/-! ===== after a text was read: what stays ===== -/
theorem up11 {x : Nat} {K : XK} {h : XH} (T : x_T x K h) {n : Nat} (hz : ∀ q, n ≤ q → (K q).1 = 0) {r : Nat} (q2 : K r = (11, 0)) : r + 4 < n := by
  have t := (T.2.2.2.1 r (by rw [q2])).2.2.2
  by_cases c : r + 4 < n
  · exact c
  · have := hz (r + 4) (by omega)
    omega
theorem up8 {x : Nat} {K : XK} {h : XH} (T : x_T x K h) {n : Nat} (hz : ∀ q, n ≤ q → (K q).1 = 0) {r : Nat} (q2 : K r = (8, 0)) : r + 34 ≤ n := by
  obtain ⟨T1, T2, T3, T4, T5, -⟩ := T
  have a4 := (T2 r (by rw [q2])).2.2.2.1
  have b := T5 (r + 4) (by rw [a4]) 7 (by omega)
  have c := (T3 (r + 4 + 6 + 3 * 7) (by rw [b])).2
  by_cases d : r + 34 ≤ n
  · exact d
  · have := hz (r + 4 + 6 + 3 * 7 + 2) (by omega)
    rw [c] at this
    exact absurd this (by decide)
theorem Inv.rd {gh : Nat} {x n : Nat} {K K' : XK} {h h' : XH} (T : x_T x K h) (I : Inv gh x K h) (hz : ∀ q, n ≤ q → (K q).1 = 0) (hn : x + 77 ≤ n) (hK : ∀ a, a < n → K' a = K a) (ha : ∀ a, a < n → a ≠ x + 1 → a ≠ x + 3 → a ≠ x + 4 → a ≠ x + 5 → a ≠ x + 6 → a ≠ x + 7 → a ≠ x + 8 → a ≠ x + 64 → a ≠ x + 65 → h'.1 a = h.1 a) (hw : ∀ k, k < 6076 → h'.1 (x + 65) k = h.1 (x + 65) k) (m3 : h'.1 (x + 64) 3 = h.1 (x + 64) 3) (r : ∀ a, a < n → h'.2.2 a = h.2.2 a) (ht : Tp_ x h') : Inv gh x K' h' := by
  obtain ⟨hW, hS, hM, -⟩ := I
  have ew : ∀ k, k < 6076 → wd x h' k = wd x h k := fun k hk => by
    unfold wd
    rw [hw k hk]
  have ej : wj x h' = wj x h := by
    funext k
    unfold wj
    rw [ha _ (by omega) (by omega) (by omega) (by omega) (by omega) (by omega) (by omega) (by omega) (by omega) (by omega)]
  have lo : ∀ a, a < n → x + 9 ≤ a → a ≠ x + 64 → a ≠ x + 65 → h'.1 a = h.1 a := fun a q1 q2 q3 q4 => ha a q1 (by omega) (by omega) (by omega) (by omega) (by omega) (by omega) (by omega) q3 q4
  refine ⟨hW.c ew, ?_, ?_, ht⟩
  · exact hS.c hW (fun r q1 q2 a q3 q4 => hK a (by have := up11 T hz q2; omega)) (fun r q1 q2 a q3 q4 => lo a (by have := up11 T hz q2; omega) (by omega) (by omega) (by omega)) (fun a q1 q2 => lo a (by omega) (by omega) (by omega) (by omega)) (r _ (by omega)) (r _ (by omega)) ew
  · rcases hM with ⟨q1, q2⟩ | ⟨R, q1, q2, q3, q4, q5, q6⟩
    · exact Or.inl ⟨by rw [r _ (by omega)]; exact q1, by rw [m3]; exact q2⟩
    · have u8 := up8 T hz q3
      refine Or.inr ⟨R, by rw [r _ (by omega)]; exact q1, q2, by rw [hK R (by omega)]; exact q3, by rw [m3]; exact q4, by rw [ej]; exact q5, ?_⟩
      rw [ej]
      exact q6.c q5 (fun r q1 q2 a q3 q4 => hK a (by have := up11 T hz q2; omega)) (fun r q1 q2 a q3 q4 => lo a (by have := up11 T hz q2; omega) (by omega) (by omega) (by omega)) (fun a q1 q2 => lo a (by omega) (by omega) (by omega) (by omega)) (r _ (by omega)) (r _ (by omega)) (fun _ _ => rfl)
/-- the tape on both sides, out of the relation -/
theorem Inv.tape {gh : Nat} {x : Nat} {K : XK} {h : XH} (I : Inv gh x K h) : ∃ (L : Nat) (V : Nat → Int), TpC x V L h ∧ h.1 (x + 64) 5 = jI L ∧ ∀ k, k < L → h.1 (x + 67) k = jI (if V k < 128 then V k else V k - 256) := by
  obtain ⟨L, L4, t1, t2, -, t4⟩ := I.2.2.2
  have ev : ∀ k, k < L → 0 ≤ (h.1 (x + 2) k).toInt ∧ (h.1 (x + 2) k).toInt < 256 ∧ h.1 (x + 67) k = jI (if (h.1 (x + 2) k).toInt < 128 then (h.1 (x + 2) k).toInt else (h.1 (x + 2) k).toInt - 256) := fun k hk => by
    obtain ⟨v, a, b, c, d⟩ := t4 k hk
    have e : (h.1 (x + 2) k).toInt = v := by rw [c, jI_toInt (by omega) (by omega)]
    rw [e]
    exact ⟨a, b, d⟩
  exact ⟨L, fun k => (h.1 (x + 2) k).toInt, ⟨t1, L4, fun k _ => jI_of _, fun k hk => ⟨(ev k hk).1, (ev k hk).2.1⟩⟩, t2, fun k hk => (ev k hk).2.2⟩
theorem Tp_0 {x : Nat} {h : XH} (a : h.1 (x + 1) 1 = jI 0) (b : h.1 (x + 64) 5 = jI 0) (c : h.1 (x + 64) 10 = h.1 (x + 1) 8) : Tp_ x h := ⟨0, by omega, a, b, c, fun k hk => absurd hk (by omega)⟩
/-- the reference's text is copied to its place -/
theorem r_113 {x t i' : Nat} {h : XH} {v2 : Nat} (ht : t < 6) (hv : v2 < 8) :
    ∃ h', f_X12_keeps_113 x x_FU h (jI (v2 : Int)) (jI (i' : Int)) (jI (t : Int)) 0 = some (h.1 (x + 65) v2 + 1 - 1, x_i (x_i h' (x + 65) (970 + 851 * t) (jI (i' : Int))) (x + 65) v2 (h.1 (x + 65) v2 + 1)) ∧ (∀ q, q < 851 → h'.1 (x + 65) (970 + 851 * t + q) = h.1 (x + 65) (6076 + q)) ∧ (∀ q, (q < 970 + 851 * t ∨ 970 + 851 * t + 851 ≤ q) → h'.1 (x + 65) q = h.1 (x + 65) q) ∧ (∀ a, a ≠ x + 65 → h'.1 a = h.1 a) ∧ h'.2 = h.2 := by
  have ta : ∀ h : XH, f_X12_textAt h (jI (t : Int)) = jI ((970 + 851 * t : Nat) : Int) := fun h => by
    unfold f_X12_textAt
    rw [show (970 : Int32) = jI 970 from rfl, show (851 : Int32) = jI 851 from rfl, jI_mul, jI_add]
    congr 1
  have t6 : ∀ h : XH, f_X12_textAt h 6 = jI ((6076 : Nat) : Int) := fun h => by
    unfold f_X12_textAt
    decide
  have key := x_up0 (P := fun m k => ∀ h1 : XH, (∀ q, q < k → h1.1 (x + 65) (970 + 851 * t + q) = h.1 (x + 65) (6076 + q)) → (∀ q, (q < 970 + 851 * t ∨ 970 + 851 * t + 851 ≤ q) → h1.1 (x + 65) q = h.1 (x + 65) q) → (∀ a, a ≠ x + 65 → h1.1 a = h.1 a) → h1.2 = h.2 → ∃ h', f_X12_keeps_113 x m h1 (jI (v2 : Int)) (jI (i' : Int)) (jI (t : Int)) (jI (k : Int)) = some (h.1 (x + 65) v2 + 1 - 1, x_i (x_i h' (x + 65) (970 + 851 * t) (jI (i' : Int))) (x + 65) v2 (h.1 (x + 65) v2 + 1)) ∧ (∀ q, q < 851 → h'.1 (x + 65) (970 + 851 * t + q) = h.1 (x + 65) (6076 + q)) ∧ (∀ q, (q < 970 + 851 * t ∨ 970 + 851 * t + 851 ≤ q) → h'.1 (x + 65) q = h.1 (x + 65) q) ∧ (∀ a, a ≠ x + 65 → h'.1 a = h.1 a) ∧ h'.2 = h.2) 851 (by omega) (fun m h1 f1 f2 f3 f4 => by
    refine ⟨h1, ?_, f1, f2, f3, f4⟩
    have b2 : x_b (jI (v2 : Int)) 6927 = true := jI_b (by omega) (by omega) (by omega)
    rw [f_X12_keeps_113, if_pos (by decide), ta, if_pos (jI_b (by omega) (by omega) (by omega)), xl_, nat_ (by omega), if_pos b2, if_pos b2, xl_, if_pos b2, nat_ (by omega), gi_s, gi_k (by omega), f2 v2 (by omega)]) (fun m k hk ih h1 f1 f2 f3 f4 => by
    have s1 : jI ((6076 : Nat) : Int) + jI (k : Int) = jI ((6076 + k : Nat) : Int) := by rw [jI_add]; rfl
    have s2 : jI ((970 + 851 * t : Nat) : Int) + jI (k : Int) = jI ((970 + 851 * t + k : Nat) : Int) := by rw [jI_add]; rfl
    rw [f_X12_keeps_113, if_neg (show ¬ (851 : Int32) ≤ jI (k : Int) from fun q => absurd ((jI_le (a := 851) (by omega) (by omega) (by omega) (by omega)).mp q) (by omega)), t6, ta, s1, s2, if_pos (jI_b (by omega) (by omega) (by omega)), if_pos (jI_b (by omega) (by omega) (by omega)), xl_, nat_ (by omega), nat_ (by omega), jI_s k]
    refine ih _ (fun q hq => ?_) (fun q hq => ?_) (fun a a1 => by rw [gi_n a1]; exact f3 a a1) f4
    · by_cases c : q = k
      · rw [c, gi_s, f2 _ (by omega)]
      · rw [gi_k (by omega)]
        exact f1 q (by omega)
    · rw [gi_k (by omega)]
      exact f2 q hq)
  exact key h (fun q hq => absurd hq (by omega)) (fun _ _ => rfl) (fun _ _ => rfl) rfl
