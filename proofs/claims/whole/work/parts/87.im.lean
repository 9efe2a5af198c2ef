/-! ===== the image ===== -/
theorem r_im7 {x N : Nat} {h : XH} (hN : N = 6076) : f_X12_image_7 x x_FU h (jI 0) = some (x_i (wr_ (x + 66) 0 (fun k => wd x h k) N h) (x + 64) 3 1) := by
  refine x_up0 (P := fun m n => f_X12_image_7 x m (wr_ (x + 66) 0 (fun k => wd x h k) n h) (jI (n : Int)) = some (x_i (wr_ (x + 66) 0 (fun k => wd x h k) N h) (x + 64) 3 1)) N (by omega) (fun m => by
    rw [f_X12_image_7, if_pos (show (6076 : Int32) ≤ jI (N : Int) from (jI_le (a := 6076) (by omega) (by omega) (by omega) (by omega)).mpr (by omega)), xl_]) (fun m n hn ih => by
    rw [f_X12_image_7, if_neg (show ¬ (6076 : Int32) ≤ jI (n : Int) from fun q => absurd ((jI_le (a := 6076) (by omega) (by omega) (by omega) (by omega)).mp q) (by omega)), if_pos (jI_b (by omega) (by omega) (by omega)), if_pos (jI_b (by omega) (by omega) (by omega)), xl_, nat_ (by omega), jI_s, wr_n (show x + 65 ≠ x + 66 by omega), wd_j]
    have e : x_i (wr_ (x + 66) 0 (fun k => wd x h k) n h) (x + 66) n (jI (wd x h n)) = wr_ (x + 66) 0 (fun k => wd x h k) (n + 1) h := by
      show _ = x_i (wr_ (x + 66) 0 (fun k => wd x h k) n h) (x + 66) (0 + n) (jI (wd x h n))
      rw [Nat.zero_add]
    rw [e]
    exact ih)
theorem r_img {x : Nat} {h : XH} : ∃ h4, f_X12_image x h = some h4 ∧ (∀ a, a ≠ x + 64 → a ≠ x + 66 → h4.1 a = h.1 a) ∧ (∀ k, k < 6076 → h4.1 (x + 66) k = h.1 (x + 65) k) ∧ (∀ k, k ≠ 0 → k ≠ 3 → h4.1 (x + 64) k = h.1 (x + 64) k) ∧ h4.1 (x + 64) 3 = 1 ∧ h4.2 = h.2 := by
  obtain ⟨N, hN⟩ : ∃ N : Nat, N = 6076 := ⟨_, rfl⟩
  refine ⟨x_i (wr_ (x + 66) 0 (fun k => wd x (x_i h (x + 64) 0 (jI 0)) k) N (x_i h (x + 64) 0 (jI 0))) (x + 64) 3 1, ?_, fun a n1 n2 => ?_, fun k hk => ?_, fun k n1 n2 => ?_, gi_s, ?_⟩
  · unfold f_X12_image
    rw [xl_, show x_i h (x + 64) 0 (0 : Int32) = x_i h (x + 64) 0 (jI 0) from rfl, show (0 : Int32) = jI 0 from rfl, r_im7 hN]
  · rw [gi_n n1, wr_n n2, gi_n n1]
  · rw [gi_n (by omega)]
    have e := wr_i (a := x + 66) (b := 0) (n := N) (f := fun k => wd x (x_i h (x + 64) 0 (jI 0)) k) (h := x_i h (x + 64) 0 (jI 0)) (k := k) (by omega)
    rw [Nat.zero_add] at e
    rw [e, wm0, wd_j]
  · rw [gi_k n2, wr_n (by omega), gi_k n1]
  · show (wr_ (x + 66) 0 (fun k => wd x (x_i h (x + 64) 0 (jI 0)) k) N (x_i h (x + 64) 0 (jI 0))).2 = h.2
    rw [wr_2]
    rfl
theorem r_bk16 {x N : Nat} {h : XH} (hN : N = 6076) : f_X12_back_16 x x_FU h (jI 0) = some (1, wr_ (x + 65) 0 (fun k => wj x h k) N h) := by
  refine x_up0 (P := fun m n => f_X12_back_16 x m (wr_ (x + 65) 0 (fun k => wj x h k) n h) (jI (n : Int)) = some (1, wr_ (x + 65) 0 (fun k => wj x h k) N h)) N (by omega) (fun m => by
    rw [f_X12_back_16, if_pos (show (6076 : Int32) ≤ jI (N : Int) from (jI_le (a := 6076) (by omega) (by omega) (by omega) (by omega)).mpr (by omega))]) (fun m n hn ih => by
    rw [f_X12_back_16, if_neg (show ¬ (6076 : Int32) ≤ jI (n : Int) from fun q => absurd ((jI_le (a := 6076) (by omega) (by omega) (by omega) (by omega)).mp q) (by omega)), if_pos (jI_b (by omega) (by omega) (by omega)), if_pos (jI_b (by omega) (by omega) (by omega)), xl_, nat_ (by omega), jI_s, wr_n (show x + 66 ≠ x + 65 by omega), wj_j]
    have e : x_i (wr_ (x + 65) 0 (fun k => wj x h k) n h) (x + 65) n (jI (wj x h n)) = wr_ (x + 65) 0 (fun k => wj x h k) (n + 1) h := by
      show _ = x_i (wr_ (x + 65) 0 (fun k => wj x h k) n h) (x + 65) (0 + n) (jI (wj x h n))
      rw [Nat.zero_add]
    rw [e]
    exact ih)
theorem r_bak {x : Nat} {h : XH} : ∃ h4, f_X12_back_16 x x_FU h (jI 0) = some (1, h4) ∧ (∀ a, a ≠ x + 65 → h4.1 a = h.1 a) ∧ (∀ k, k < 6076 → wd x h4 k = wj x h k) ∧ h4.2 = h.2 := by
  obtain ⟨N, hN⟩ : ∃ N : Nat, N = 6076 := ⟨_, rfl⟩
  refine ⟨wr_ (x + 65) 0 (fun k => wj x h k) N h, r_bk16 hN, fun a n => wr_n n, fun k hk => ?_, wr_2⟩
  have b : -2147483648 ≤ wj x h k ∧ wj x h k < 2147483648 := ⟨Int32.le_toInt _, Int32.toInt_lt _⟩
  have e := wd_wi (x := x) (b := 0) (n := N) (f := fun k => wj x h k) (h := h) k (by omega) b
  rw [Nat.zero_add] at e
  exact e
theorem im_core {gh x R : Nat} {K1 : XK} {h h1 : XH} (W : WI gh (wd x h)) (S : CSt x K1 h1 (x + 9) (wd x h)) (tp : Tp_ x h) (hR : x + 77 ≤ R) (kR : K1 R = (8, 0)) (r8 : h1.2.2 x 8 = some R) (low : ∀ a, a < x + 77 → h1.1 a = h.1 a) (far : ∀ r, x + 77 ≤ r → K1 r = (11, 0) → ∀ q, r ≤ q → q ≤ r + 4 → q < R ∨ R + 34 ≤ q) :
    ∃ h3 h4, f_X7_copyFrom R h1 (x + 9) = some h3 ∧ f_X12_image x h3 = some h4 ∧ Inv gh x K1 h4 := by
  obtain ⟨h3, k1, c⟩ := cp_all (a := R) (v := x + 9) (h := h1) (Or.inr (by omega)) S.2.2.2.2.2.2.2.2.2
  have l3 : ∀ a, a < x + 77 → h3.1 a = h.1 a := fun a ha => by rw [c.1 a (by omega)]; exact low a ha
  have w3 : wd x h3 = wd x h := by
    funext k
    unfold wd
    rw [l3 _ (by omega)]
  obtain ⟨h4, k4, g, i66, c64, c3, e2⟩ := r_img (x := x) (h := h3)
  refine ⟨h3, h4, k1, k4, ?_⟩
  have w4 : wd x h4 = wd x h := by
    funext k
    unfold wd
    rw [g _ (by omega) (by omega), l3 _ (by omega)]
  have j4 : ∀ k, k < 6076 → wj x h4 k = wd x h k := fun k hk => by
    unfold wj wd
    rw [i66 k hk, l3 _ (by omega)]
  have s3 : CSt x K1 h3 R (wd x h) := c.st S W (fun _ _ => rfl) far
  obtain ⟨L, hL, t1, t2, t3, t4⟩ := tp
  refine ⟨by rw [w4]; exact W, ?_, Or.inr ⟨R, by rw [e2, c.2.2.2.1 x (by omega) (by omega)]; exact r8, hR, kR, c3, W.c j4, ?_⟩, L, hL, ?_, ?_, ?_, fun k hk => ?_⟩
  · rw [w4]
    refine S.c W (fun _ _ _ _ _ _ => rfl) (fun r q1 q2 a q3 q4 => ?_) (fun a q1 q2 => ?_) ?_ ?_ (fun _ _ => rfl)
    · rw [g a (by omega) (by omega)]
      exact c.1 a (far r q1 q2 a q3 q4)
    · rw [g a (by omega) (by omega)]
      exact c.1 a (by omega)
    · rw [e2]
      exact c.2.2.2.1 _ (by omega) (by omega)
    · rw [e2]
      exact c.2.2.2.1 _ (by omega) (by omega)
  · refine s3.c W (fun _ _ _ _ _ _ => rfl) (fun r q1 q2 a q3 q4 => g a (by omega) (by omega)) (fun a q1 q2 => g a (by omega) (by omega)) (by rw [e2]) (by rw [e2]) j4
  · rw [g _ (by omega) (by omega), l3 _ (by omega)]
    exact t1
  · rw [c64 5 (by decide) (by decide), l3 _ (by omega)]
    exact t2
  · rw [c64 10 (by decide) (by decide), l3 _ (by omega), g _ (by omega) (by omega), l3 _ (by omega)]
    exact t3
  · rw [g _ (by omega) (by omega), g _ (by omega) (by omega), l3 _ (by omega), l3 _ (by omega)]
    exact t4 k hk
theorem kst_ {x : Nat} {K : XK} {h : XH} (T : x_T x K h) {R : Nat} (kR : K R = (8, 0)) : ∀ j, j < 34 → (K (R + j)).1 ≠ 11 := by
  obtain ⟨T1, T2, T3, T4, T5, -⟩ := T
  have a := T2 R (by rw [kR])
  obtain ⟨a1, a2, a3, a4, a5, a6, a7, a8, a9⟩ := a
  have b := T5 (R + 4) (by rw [a4])
  intro j hj
  by_cases c : j < 10
  · rcases (show j = 0 ∨ j = 1 ∨ j = 2 ∨ j = 3 ∨ j = 4 ∨ j = 5 ∨ j = 6 ∨ j = 7 ∨ j = 8 ∨ j = 9 by omega) with e | e | e | e | e | e | e | e | e | e <;> subst e
    · rw [Nat.add_zero, kR]; decide
    · rw [a1]; decide
    · rw [a2]; decide
    · rw [a3]; decide
    · rw [a4]; decide
    · rw [a5]; decide
    · rw [a6]; decide
    · rw [a7]; decide
    · rw [a8]; decide
    · rw [a9]; decide
  · obtain ⟨k, i, hk, hi, e⟩ : ∃ k i, k < 8 ∧ i < 3 ∧ j = 10 + 3 * k + i := ⟨(j - 10) / 3, (j - 10) % 3, by omega, by omega, by omega⟩
    have p := b k hk
    have q := T3 (R + 4 + 6 + 3 * k) (by rw [p])
    rcases (show i = 0 ∨ i = 1 ∨ i = 2 by omega) with z | z | z <;> subst z
    · rw [show R + j = R + 4 + 6 + 3 * k by omega, p]; decide
    · rw [show R + j = R + 4 + 6 + 3 * k + 1 by omega, q.1]; decide
    · rw [show R + j = R + 4 + 6 + 3 * k + 2 by omega, q.2]; decide
theorem kl_lo {K : XK} {n b : Nat} {ks : List (Nat × Nat)} (hb : b < n) : x_kl K n ks b = K b := if_pos hb
theorem kl_in {K : XK} {n j : Nat} {q : Nat × Nat} {ks : List (Nat × Nat)} (e : ks[j]? = some q) : x_kl K n ks (n + j) = q := by
  unfold x_kl
  rw [if_neg (by omega), Nat.add_sub_cancel_left, e]
theorem kl_hi {K : XK} {n j : Nat} {ks : List (Nat × Nat)} (e : ks[j]? = none) : x_kl K n ks (n + j) = K (n + j) := by
  unfold x_kl
  rw [if_neg (by omega), Nat.add_sub_cancel_left, e]
theorem P_row39 {gh : Nat} {x : Nat} {K : XK} {h : XH} (T : x_T x K h) (I : Inv gh x K h) {n : Nat} (hz : ∀ q, n ≤ q → (K q).1 = 0) (hn : x + 77 ≤ n) : ∃ (K' : XK) (h' : XH), f_row39 K x n h = some (K', h') ∧ Inv gh x K' h' := by
  obtain ⟨W, S, M, tp⟩ := id I
  have T4 := T.2.2.2.1
  unfold f_row39 f_X11_image
  rcases M with ⟨m1, m2⟩ | ⟨R, m1, m2, m3, m4, m5, m6⟩
  · rw [m1]
    show ∃ (K' : XK) (h' : XH), Option.bind (Option.bind (f_X7_copyFrom n (x_r (x_hs h n 34 g_7) x 8 (some n)) (x + 9)) (fun h3 => some (x_kl K n x_kSt, h3))) _ = _ ∧ _
    have up : ∀ r, x + 77 ≤ r → K r = (11, 0) → r + 4 < n := fun r _ q2 => by
      have t := (T4 r (by rw [q2])).2.2.2
      by_cases c : r + 4 < n
      · exact c
      · have := hz (r + 4) (by omega)
        omega
    have lo : ∀ a, a < n → (x_r (x_hs h n 34 g_7) x 8 (some n)).1 a = h.1 a := fun a ha => by
      funext k
      show (if a < n ∨ n + 34 ≤ a then h.1 a k else _) = _
      rw [if_pos (Or.inl ha)]
    have lr : ∀ a, a < n → a ≠ x → (x_r (x_hs h n 34 g_7) x 8 (some n)).2.2 a = h.2.2 a := fun a ha hx => by
      funext k
      rw [gr_, if_neg (fun q => hx q.1)]
      show (if a < n ∨ n + 34 ≤ a then h.2.2 a k else _) = _
      rw [if_pos (Or.inl ha)]
    have S1 : CSt x (x_kl K n x_kSt) (x_r (x_hs h n 34 g_7) x 8 (some n)) (x + 9) (wd x h) := S.c W (fun r q1 q2 a q3 q4 => kl_lo (by have := up r q1 q2; omega)) (fun r q1 q2 a q3 q4 => lo a (by have := up r q1 q2; omega)) (fun a q1 q2 => lo a (by omega)) (lr _ (by omega) (by omega)) (lr _ (by omega) (by omega)) (fun _ _ => rfl)
    obtain ⟨h3, h4, c1, c2, c3⟩ := im_core W S1 tp hn (by have := kl_in (K := K) (n := n) (j := 0) (ks := x_kSt) (q := (8, 0)) rfl; exact this) (by rw [gr_, if_pos ⟨rfl, rfl⟩]) (fun a ha => lo a (by omega)) (fun r q1 q2 q q3 q4 => by
      by_cases c : r < n
      · have := up r q1 (by rw [kl_lo c] at q2; exact q2)
        omega
      · exfalso
        obtain ⟨j, rfl⟩ : ∃ j, r = n + j := ⟨r - n, by omega⟩
        by_cases d : j < 34
        · have a : ∀ j : Fin 34, x_kSt[j.val]? ≠ some (11, 0) ∧ x_kSt[j.val]? ≠ none := by decide
          obtain ⟨a1, a2⟩ := a ⟨j, d⟩
          cases e : x_kSt[j]? with
          | none => exact a2 e
          | some z =>
            rw [kl_in e] at q2
            rw [q2] at e
            exact a1 e
        · have e : x_kSt[j]? = none := List.getElem?_eq_none (by show 34 ≤ j; omega)
          rw [kl_hi e] at q2
          have := hz (n + j) (by omega)
          rw [q2] at this
          exact absurd this (by decide))
    refine ⟨x_kl K n x_kSt, h4, ?_, c3⟩
    rw [c1, Option.bind_some, Option.bind_some, c2, Option.bind_some]
  · rw [m1]
    show ∃ (K' : XK) (h' : XH), Option.bind (Option.bind (f_X7_copyFrom R h (x + 9)) (fun h3 => some (K, h3))) _ = _ ∧ _
    obtain ⟨h3, h4, c1, c2, c3⟩ := im_core W S tp m2 m3 m1 (fun _ _ => rfl) (fun r q1 q2 q q3 q4 => by
      have ks := kst_ T m3
      by_cases c : q < R ∨ R + 34 ≤ q
      · exact c
      · exfalso
        by_cases d : r < R
        · have t := T4 r (by rw [q2])
          have e : (K R).1 = 8 := by rw [m3]
          rcases (show R = r + 1 ∨ R = r + 2 ∨ R = r + 3 ∨ R = r + 4 by omega) with z | z | z | z <;> subst z <;> omega
        · have := ks (r - R) (by omega)
          rw [show R + (r - R) = r by omega, q2] at this
          exact this rfl)
    refine ⟨K, h4, ?_, c3⟩
    rw [c1, Option.bind_some, Option.bind_some, c2, Option.bind_some]
theorem P_row40 {gh : Nat} {x : Nat} {K : XK} {h : XH} (I : Inv gh x K h) : ∃ h', f_row40 x h = some h' ∧ Inv gh x K h' := by
  obtain ⟨W, S, M, L, hL, t1, t2, t3, t4⟩ := id I
  unfold f_row40 f_X11_back f_X12_back
  rcases M with ⟨m1, m2⟩ | ⟨R, m1, m2, m3, m4, m5, m6⟩
  · refine ⟨x_i h (x + 64) 0 (jI 0), ?_, I.m0⟩
    rw [m1]
    show Option.bind (some ((0 : Int32), h)) _ = _
    rw [Option.bind_some, xl_, gi_k (by decide), m2, if_pos rfl, Option.bind_some, if_pos rfl]
    rfl
  · obtain ⟨h3, k1, c⟩ := cp_all (a := x + 9) (v := R) (h := h) (Or.inl (by omega)) m6.2.2.2.2.2.2.2.2.2
    have s3 : CSt x K h3 (x + 9) (wj x h) := c.st m6 m5 (fun _ _ => rfl) (fun r q1 q2 q q3 q4 => Or.inr (by omega))
    have j3 : wj x (x_i h3 (x + 64) 0 (jI 0)) = wj x h := by
      funext k
      unfold wj
      rw [gi_n (by omega), c.1 _ (by omega)]
    obtain ⟨h4, k4, g4, w4, e4⟩ := r_bak (x := x) (h := x_i h3 (x + 64) 0 (jI 0))
    rw [j3] at w4
    refine ⟨h4, ?_, ?_⟩
    · rw [m1]
      show Option.bind (Option.bind (some R) (fun r3 => Option.bind (f_X7_copyFrom (x + 9) h r3) (fun h4 => some ((1 : Int32), h4)))) _ = _
      rw [Option.bind_some, k1, Option.bind_some, Option.bind_some, xl_, gi_k (by decide), c.1 (x + 64) (by omega), m4, if_neg (by decide), show x_i h3 (x + 64) 0 (0 : Int32) = x_i h3 (x + 64) 0 (jI 0) from rfl, show (0 : Int32) = jI 0 from rfl, k4, Option.bind_some, if_pos rfl]
    · have g : ∀ a, a ≠ x + 64 → a ≠ x + 65 → h4.1 a = h3.1 a := fun a n1 n2 => by rw [g4 a n2, gi_n n1]
      have c64 : ∀ k, k ≠ 0 → h4.1 (x + 64) k = h.1 (x + 64) k := fun k n1 => by rw [g4 _ (by omega), gi_k n1, c.1 _ (by omega)]
      have e2 : h4.2 = h3.2 := e4
      have j4 : wj x h4 = wj x h := by
        funext k
        unfold wj
        rw [g _ (by omega) (by omega), c.1 _ (by omega)]
      refine ⟨m5.c w4, ?_, Or.inr ⟨R, by rw [e2, c.2.2.2.1 x (by omega) (by omega)]; exact m1, m2, m3, by rw [c64 3 (by decide)]; exact m4, by rw [j4]; exact m5, ?_⟩, L, hL, ?_, ?_, ?_, fun k hk => ?_⟩
      · exact s3.c m5 (fun _ _ _ _ _ _ => rfl) (fun r q1 q2 a q3 q4 => g a (by omega) (by omega)) (fun a q1 q2 => g a (by omega) (by omega)) (by rw [e2]) (by rw [e2]) w4
      · rw [j4]
        refine m6.c m5 (fun _ _ _ _ _ _ => rfl) (fun r q1 q2 a q3 q4 => ?_) (fun a q1 q2 => ?_) ?_ ?_ (fun _ _ => rfl)
        · rw [g a (by omega) (by omega)]
          exact c.1 a (by omega)
        · rw [g a (by omega) (by omega)]
          exact c.1 a (by omega)
        · rw [e2]
          exact c.2.2.2.1 _ (by omega) (by omega)
        · rw [e2]
          exact c.2.2.2.1 _ (by omega) (by omega)
      · rw [g _ (by omega) (by omega), c.1 _ (by omega)]
        exact t1
      · rw [c64 5 (by decide)]
        exact t2
      · rw [c64 10 (by decide), g _ (by omega) (by omega), c.1 _ (by omega)]
        exact t3
      · rw [g _ (by omega) (by omega), g _ (by omega) (by omega), c.1 _ (by omega), c.1 _ (by omega)]
        exact t4 k hk
