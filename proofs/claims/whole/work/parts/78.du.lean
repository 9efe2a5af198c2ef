/-! ===== the dullest card ===== -/
def tc_ (w : Nat → Int) (p : Nat) (c : Int) (n : Nat) : Int := sm_ n (fun i => if cd_ w p i = c then 1 else 0)
def mc_ (w : Nat → Int) (p : Nat) (c : Int) (n : Nat) : Int := sm_ n (fun i => if cd_ w p i = c ∧ w (290 + 81 * p + 29 + i) ≠ c then 1 else 0)
def tp_ (w : Nat → Int) (p : Nat) (c : Int) : Int := if 0 < w (290 + 81 * p + 3) then tc_ w p c (w (290 + 81 * p + 2)).toNat else 0
def mp_ (w : Nat → Int) (p : Nat) (c : Int) : Int := if 0 < w (290 + 81 * p + 3) then mc_ w p c (w (290 + 81 * p + 2)).toNat else 0
def tA_ (w : Nat → Int) (c : Int) (k : Nat) : Int := sm_ k (fun p => tp_ w p c)
def mA_ (w : Nat → Int) (c : Int) (k : Nat) : Int := sm_ k (fun p => mp_ w p c)
theorem tc_b {w : Nat → Int} {p n : Nat} {c : Int} : 0 ≤ tc_ w p c n ∧ tc_ w p c n ≤ n := by
  have h := sm_b (n := n) (f := fun i => if cd_ w p i = c then (1 : Int) else 0) (lo := 0) (hi := 1) (fun i _ => by
    show 0 ≤ (if cd_ w p i = c then (1 : Int) else 0) ∧ (if cd_ w p i = c then (1 : Int) else 0) ≤ 1
    split <;> omega)
  unfold tc_
  omega
theorem mc_b {w : Nat → Int} {p n : Nat} {c : Int} : 0 ≤ mc_ w p c n ∧ mc_ w p c n ≤ n := by
  have h := sm_b (n := n) (f := fun i => if cd_ w p i = c ∧ w (290 + 81 * p + 29 + i) ≠ c then (1 : Int) else 0) (lo := 0) (hi := 1) (fun i _ => by
    show 0 ≤ (if cd_ w p i = c ∧ w (290 + 81 * p + 29 + i) ≠ c then (1 : Int) else 0) ∧ (if cd_ w p i = c ∧ w (290 + 81 * p + 29 + i) ≠ c then (1 : Int) else 0) ≤ 1
    split <;> omega)
  unfold mc_
  omega
theorem tA_b {w : Nat → Int} {c : Int} {k : Nat} (h : ∀ p : Nat, p < k → w (290 + 81 * p + 2) ≤ 52) : 0 ≤ tA_ w c k ∧ tA_ w c k ≤ k * 52 ∧ 0 ≤ mA_ w c k ∧ mA_ w c k ≤ k * 52 := by
  have h1 := sm_b (n := k) (f := fun p => tp_ w p c) (lo := 0) (hi := 52) (fun p hp => by
    show 0 ≤ tp_ w p c ∧ tp_ w p c ≤ 52
    have := h p hp
    have := tc_b (w := w) (p := p) (c := c) (n := (w (290 + 81 * p + 2)).toNat)
    unfold tp_
    split <;> omega)
  have h2 := sm_b (n := k) (f := fun p => mp_ w p c) (lo := 0) (hi := 52) (fun p hp => by
    show 0 ≤ mp_ w p c ∧ mp_ w p c ≤ 52
    have := h p hp
    have := mc_b (w := w) (p := p) (c := c) (n := (w (290 + 81 * p + 2)).toNat)
    unfold mp_
    split <;> omega)
  unfold tA_ mA_
  omega
/-- the row of times and of misses in the component -/
def TM (x : Nat) (h : XH) (f g : Int → Int) : Prop := ∀ c : Nat, c < 52 → h.1 (x + 60) c = jI (f c) ∧ h.1 (x + 61) c = jI (g c)
theorem c_m41 {gh : Nat} {x : Nat} {K : XK} {h : XH} (I : Inv gh x K h) {k18 : XH → Int32 → Option XH} {p : Nat} (hp : (p : Int) < wd x h 1) {f g : Int → Int} (h1 : XH) (f1 : ∀ a, a ≠ x + 60 → a ≠ x + 61 → h1.1 a = h.1 a) (f2 : h1.2 = h.2) (tm : TM x h1 f g) :
    ∃ h2, f_X0_countMissed_41 k18 K x x_FU h1 (jI p) (x + 13 + 6 + 3 * p) (jI 0) = k18 h2 (jI p + 1) ∧ (∀ a, a ≠ x + 60 → a ≠ x + 61 → h2.1 a = h.1 a) ∧ h2.2 = h.2 ∧ TM x h2 (fun c => f c + tp_ (wd x h) p c) (fun c => g c + mp_ (wd x h) p c) := by
  have w1 := I.w1
  obtain ⟨q1, q2, q3, q4, q5, -⟩ := I.pk hp
  obtain ⟨-, -, -, -, -, -, p7, p8, -, -, -, -, p13, -⟩ := I.wp hp
  by_cases cq : 0 < wd x h (290 + 81 * p + 3)
  · rw [if_pos cq] at q4
    have key := x_up0 (P := fun m n => ∀ h1 : XH, (∀ a, a ≠ x + 60 → a ≠ x + 61 → h1.1 a = h.1 a) → h1.2 = h.2 → TM x h1 (fun c => f c + tc_ (wd x h) p c n) (fun c => g c + mc_ (wd x h) p c n) → ∃ h2, f_X0_countMissed_41 k18 K x m h1 (jI p) (x + 13 + 6 + 3 * p) (jI (n : Int)) = k18 h2 (jI p + 1) ∧ (∀ a, a ≠ x + 60 → a ≠ x + 61 → h2.1 a = h.1 a) ∧ h2.2 = h.2 ∧ TM x h2 (fun c => f c + tp_ (wd x h) p c) (fun c => g c + mp_ (wd x h) p c)) (wd x h (290 + 81 * p + 2)).toNat (by omega) (fun m h1 f1 f2 tm => by
      refine ⟨h1, ?_, f1, f2, ?_⟩
      · unfold f_X0_countMissed_41
        rw [f1 _ (by omega) (by omega), q3, if_pos ((jI_le (by omega) (by omega) (by omega) (by omega)).mpr (by omega))]
        rfl
      · have e1 : ∀ c, tp_ (wd x h) p c = tc_ (wd x h) p c (wd x h (290 + 81 * p + 2)).toNat := fun c => if_pos cq
        have e2 : ∀ c, mp_ (wd x h) p c = mc_ (wd x h) p c (wd x h (290 + 81 * p + 2)).toNat := fun c => if_pos cq
        simp only [e1, e2]
        exact tm) (fun m n hn ih h1 f1 f2 tm => by
      have a1 := jI_s n
      have F : Fr x h h1 := Fr.o2 f1 f2 (by decide) (by decide)
      have ew := F.ew
      have cb := cd_b (wd x h) p n
      have cc := c_card (I.fr F) (p := p) (by rw [ew]; exact hp) (i := (n : Int)) (by omega)
      rw [ew] at cc
      have es := q5 n (by omega)
      have sb := p13 n (by omega)
      obtain ⟨k, hk⟩ : ∃ k : Nat, cd_ (wd x h) p (n : Int) = k := ⟨(cd_ (wd x h) p (n : Int)).toNat, by omega⟩
      rw [hk] at cc
      have tk := tm k (by omega)
      rw [f_X0_countMissed_41, f1 (x + 13 + 6 + 3 * p) (by omega) (by omega), q3, q4, if_neg (fun q => absurd ((jI_le (by omega) (by omega) (by omega) (by omega)).mp q) (by omega)), if_neg (show ¬ jI 1 = (0 : Int32) by decide), cc, if_pos (jI_b (by omega) (by omega) (by omega)), if_pos (jI_b (by omega) (by omega) (by omega)), xl_, if_pos (jI_b (by omega) (by omega) (by omega)), if_pos (jI_b (by omega) (by omega) (by omega)), if_pos (jI_b (by omega) (by omega) (by omega)), xl_, nat_ (by omega), nat_ (by omega), a1, gi_n (show x + 61 ≠ x + 60 by omega), gi_n (show x + 13 + 6 + 3 * p + 2 ≠ x + 60 by omega), f1 (x + 13 + 6 + 3 * p + 2) (by omega) (by omega), es, tk.1, tk.2]
      refine ih _ (fun a n1 n2 => by rw [gi_n n2, gi_n n1]; exact f1 a n1 n2) f2 (fun c hc => ?_)
      have tcn := tm c hc
      have e1 : tc_ (wd x h) p c (n + 1) = tc_ (wd x h) p c n + (if cd_ (wd x h) p n = c then 1 else 0) := rfl
      have e2 : mc_ (wd x h) p c (n + 1) = mc_ (wd x h) p c n + (if cd_ (wd x h) p n = c ∧ wd x h (290 + 81 * p + 29 + n) ≠ c then 1 else 0) := rfl
      constructor
      · rw [gi_n (show x + 60 ≠ x + 61 by omega)]
        show (x_i h1 (x + 60) k _).1 (x + 60) c = jI (f c + tc_ (wd x h) p c (n + 1))
        rw [e1, hk]
        by_cases d : c = k
        · subst d
          rw [gi_s, if_pos rfl, show (1 : Int32) = jI 1 from rfl, jI_add, Int.add_assoc]
        · rw [gi_k d, if_neg (by omega), tcn.1, Int.add_zero]
      · show (x_i _ (x + 61) k _).1 (x + 61) c = jI (g c + mc_ (wd x h) p c (n + 1))
        rw [e2, hk]
        by_cases d : c = k
        · subst d
          rw [gi_s]
          by_cases u : wd x h (290 + 81 * p + 29 + n) = (c : Int)
          · rw [if_pos (by rw [u]), if_neg (fun q => q.2 u), show (0 : Int32) = jI 0 from rfl, jI_add, Int.add_assoc]
          · rw [if_neg (fun q => u ((jI_eq (by omega) (by omega) (by omega) (by omega)).mp q)), if_pos ⟨rfl, u⟩, show (1 : Int32) = jI 1 from rfl, jI_add, Int.add_assoc]
        · rw [gi_k d, gi_n (show x + 61 ≠ x + 60 by omega), if_neg (fun q => d (by omega)), tcn.2, Int.add_zero])
    refine key h1 f1 f2 ?_
    have z1 : ∀ c, tc_ (wd x h) p c 0 = 0 := fun c => rfl
    have z2 : ∀ c, mc_ (wd x h) p c 0 = 0 := fun c => rfl
    simp only [z1, z2, Int.add_zero]
    exact tm
  · rw [if_neg cq] at q4
    refine ⟨h1, ?_, f1, f2, ?_⟩
    · show f_X0_countMissed_41 k18 K x (99999 + 1) h1 (jI p) (x + 13 + 6 + 3 * p) (jI 0) = _
      rw [f_X0_countMissed_41, f1 (x + 13 + 6 + 3 * p) (by omega) (by omega), q3, q4, if_neg (fun q => absurd ((jI_le (by omega) (by omega) (by omega) (by omega)).mp q) (by omega)), if_pos (show jI 0 = (0 : Int32) from rfl)]
      rfl
    · have e1 : ∀ c, tp_ (wd x h) p c = 0 := fun c => if_neg cq
      have e2 : ∀ c, mp_ (wd x h) p c = 0 := fun c => if_neg cq
      simp only [e1, e2, Int.add_zero]
      exact tm
theorem c_cntM {gh : Nat} {x : Nat} {K : XK} {h : XH} (I : Inv gh x K h) (k60 : (K (x + 60)).2 = 52) (k61 : (K (x + 61)).2 = 52) :
    ∃ h2, f_X0_countMissed K x h = some h2 ∧ (∀ a, a ≠ x + 60 → a ≠ x + 61 → h2.1 a = h.1 a) ∧ h2.2 = h.2 ∧ TM x h2 (fun c => tA_ (wd x h) c (wd x h 1).toNat) (fun c => mA_ (wd x h) c (wd x h 1).toNat) := by
  have w1 := I.w1
  have e4 : h.1 (x + 9) 4 = jI (wd x h 1) := I.2.1.1.2.1
  have l0 := fill_ (h := h) (v0 := x + 60) (v := 0) k60 (by omega)
  have l1 := fill_ (h := wr_ (x + 60) 0 (fun _ => 0) 52 h) (v0 := x + 61) (v := 0) k61 (by omega)
  have l0' : f_J7_fill_53178 K h (x + 60) 0 = _ := l0
  have l1' : f_J7_fill_53178 K (wr_ (x + 60) 0 (fun _ => 0) 52 h) (x + 61) 0 = _ := l1
  unfold f_X0_countMissed
  rw [l0', Option.bind_some, l1', Option.bind_some]
  have key := x_up0 (P := fun m n => ∀ h1 : XH, (∀ a, a ≠ x + 60 → a ≠ x + 61 → h1.1 a = h.1 a) → h1.2 = h.2 → TM x h1 (fun c => tA_ (wd x h) c n) (fun c => mA_ (wd x h) c n) → ∃ h2, f_X0_countMissed_18 K x m h1 (jI (n : Int)) = some h2 ∧ (∀ a, a ≠ x + 60 → a ≠ x + 61 → h2.1 a = h.1 a) ∧ h2.2 = h.2 ∧ TM x h2 (fun c => tA_ (wd x h) c (wd x h 1).toNat) (fun c => mA_ (wd x h) c (wd x h 1).toNat)) (wd x h 1).toNat (by omega) (fun m h1 f1 f2 tm => by
    refine ⟨h1, ?_, f1, f2, tm⟩
    unfold f_X0_countMissed_18
    rw [f1 _ (by omega) (by omega), e4, if_pos ((jI_le (by omega) (by omega) (by omega) (by omega)).mpr (by omega))]) (fun m n hn ih h1 f1 f2 tm => by
    have a1 := jI_s n
    obtain ⟨h2, g1, g2, g3, g4⟩ := c_m41 I (k18 := f_X0_countMissed_18 K x m) (p := n) (by omega) h1 f1 f2 tm
    obtain ⟨h3, k1, k2, k3, k4⟩ := ih h2 g2 g3 g4
    refine ⟨h3, ?_, k2, k3, k4⟩
    rw [f_X0_countMissed_18, f1 (x + 9) (by omega) (by omega), e4, if_neg (fun q => absurd ((jI_le (by omega) (by omega) (by omega) (by omega)).mp q) (by omega)), if_pos (jI_b (by omega) (by omega) (by omega)), nat_ (by omega), show (0 : Int32) = jI 0 from rfl, g1, a1, k1])
  refine key _ (fun a n1 n2 => by rw [wr_n n2, wr_n n1]) (by rw [wr_2, wr_2]) (fun c hc => ?_)
  have z1 : (wr_ (x + 60) 0 (fun _ => 0) 52 h).1 (x + 60) (0 + c) = jI 0 := wr_i hc
  have z2 : (wr_ (x + 61) 0 (fun _ => 0) 52 (wr_ (x + 60) 0 (fun _ => 0) 52 h)).1 (x + 61) (0 + c) = jI 0 := wr_i hc
  rw [Nat.zero_add] at z1 z2
  exact ⟨by rw [wr_n (by omega), z1]; rfl, by rw [z2]; rfl⟩
/-- the worst card of the first n, by misses M and times Q -/
def ww_ (M Q : Int → Int) : Nat → Int
  | 0 => -1
  | c + 1 => if 0 < M c ∧ (ww_ M Q c = -1 ∨ M (ww_ M Q c) * Q c < M c * Q (ww_ M Q c)) then (c : Int) else ww_ M Q c
theorem ww_b {M Q : Int → Int} : ∀ n : Nat, -1 ≤ ww_ M Q n ∧ ww_ M Q n < n := by
  intro n
  induction n with
  | zero => simp [ww_]
  | succ n ih =>
    unfold ww_
    split <;> omega
theorem pr_b {a b : Int} (h1 : 0 ≤ a) (h2 : a ≤ 416) (h3 : 0 ≤ b) (h4 : b ≤ 416) : 0 ≤ a * b ∧ a * b ≤ 173056 := by
  refine ⟨Int.mul_nonneg h1 h3, ?_⟩
  have := Int.mul_le_mul h2 h4 h3 (by omega)
  omega
theorem c_most {gh : Nat} {x : Nat} {K : XK} {h : XH} (I : Inv gh x K h) (k60 : (K (x + 60)).2 = 52) (k61 : (K (x + 61)).2 = 52) :
    ∃ h2, f_X11_dullest K x h = some (jI (ww_ (fun c => mA_ (wd x h) c (wd x h 1).toNat) (fun c => tA_ (wd x h) c (wd x h 1).toNat) 52), h2) ∧ (∀ a, a ≠ x + 60 → a ≠ x + 61 → h2.1 a = h.1 a) ∧ h2.2 = h.2 := by
  have w1 := I.w1
  obtain ⟨h2, g1, g2, g3, g4⟩ := c_cntM I k60 k61
  refine ⟨h2, ?_, g2, g3⟩
  unfold f_X11_dullest f_X0_mostMissed
  rw [g1, Option.bind_some]
  have b : ∀ c : Int, 0 ≤ tA_ (wd x h) c (wd x h 1).toNat ∧ tA_ (wd x h) c (wd x h 1).toNat ≤ 416 ∧ 0 ≤ mA_ (wd x h) c (wd x h 1).toNat ∧ mA_ (wd x h) c (wd x h 1).toNat ≤ 416 := fun c => by
    have := tA_b (w := wd x h) (c := c) (k := (wd x h 1).toNat) (fun p hp => (I.wp (q := p) (by omega)).2.2.2.2.2.2.2.1)
    omega
  have g4' : ∀ c : Nat, c < 52 → h2.1 (x + 60) c = jI (tA_ (wd x h) c (wd x h 1).toNat) ∧ h2.1 (x + 61) c = jI (mA_ (wd x h) c (wd x h 1).toNat) := g4
  clear g4 g1
  generalize hM : (fun c => mA_ (wd x h) c (wd x h 1).toNat) = M
  generalize hQ : (fun c => tA_ (wd x h) c (wd x h 1).toNat) = Q
  have g5 : ∀ c : Nat, c < 52 → h2.1 (x + 60) c = jI (Q c) ∧ h2.1 (x + 61) c = jI (M c) := fun c hc => by
    rw [← hM, ← hQ]
    exact g4' c hc
  have b5 : ∀ c : Int, 0 ≤ Q c ∧ Q c ≤ 416 ∧ 0 ≤ M c ∧ M c ≤ 416 := fun c => by
    rw [← hM, ← hQ]
    exact b c
  have key : f_X0_mostMissed_8 K x x_FU h2 (-1) 0 = some (jI (ww_ M Q 52), h2) := by
    refine x_up0 (P := fun m n => f_X0_mostMissed_8 K x m h2 (jI (ww_ M Q n)) (jI (n : Int)) = some (jI (ww_ M Q 52), h2)) 52 (by omega) (fun m => by
      unfold f_X0_mostMissed_8
      rw [if_pos (by decide)]) (fun m n hn ih => by
      have a1 := jI_s n
      have wb := ww_b (M := M) (Q := Q) n
      have bn := b5 n
      rw [f_X0_mostMissed_8, if_neg (show ¬ (52 : Int32) ≤ jI (n : Int) from fun q => absurd ((jI_le (a := 52) (by omega) (by omega) (by omega) (by omega)).mp q) (by omega)), if_pos (jI_b (by omega) (by omega) (by omega)), nat_ (by omega), (g5 n hn).2]
      unfold f_X0_mostMissed_57 f_X0_mostMissed_59
      rw [a1]
      conv at ih => lhs; unfold ww_
      by_cases c : 0 < M n
      · rw [if_neg (show ¬ jI (M n) ≤ (0 : Int32) from fun q => absurd ((jI_le (b := 0) (by omega) (by omega) (by omega) (by omega)).mp q) (by omega))]
        by_cases d : ww_ M Q n = -1
        · rw [if_pos ⟨c, Or.inl d⟩] at ih
          rw [if_pos ((jm1 (by omega) (by omega)).mpr d)]
          exact ih
        · rw [if_neg (fun q => d ((jm1 (by omega) (by omega)).mp q))]
          obtain ⟨u, hu⟩ : ∃ u : Nat, ww_ M Q n = u := ⟨(ww_ M Q n).toNat, by omega⟩
          rw [hu] at ih d wb ⊢
          have bu := b5 u
          have p1 := pr_b bn.2.2.1 bn.2.2.2 bu.1 bu.2.1
          have p2 := pr_b bu.2.2.1 bu.2.2.2 bn.1 bn.2.1
          rw [if_pos (jI_b (by omega) (by omega) (by omega)), if_pos (jI_b (by omega) (by omega) (by omega)), if_pos (jI_b (by omega) (by omega) (by omega)), if_pos (jI_b (by omega) (by omega) (by omega)), nat_ (by omega), (g5 u (by omega)).1, (g5 u (by omega)).2, (g5 n hn).1, jI_mul, jI_mul]
          by_cases e : M u * Q n < M n * Q u
          · rw [if_pos ⟨c, Or.inr e⟩] at ih
            rw [if_neg (fun q => absurd ((jI_le (by omega) (by omega) (by omega) (by omega)).mp q) (by omega))]
            exact ih
          · rw [if_neg (fun q => q.2.elim (fun q => by omega) e)] at ih
            rw [if_pos ((jI_le (by omega) (by omega) (by omega) (by omega)).mpr (by omega))]
            exact ih
      · rw [if_neg (fun q => c q.1)] at ih
        rw [if_pos (show jI (M n) ≤ (0 : Int32) from (jI_le (b := 0) (by omega) (by omega) (by omega) (by omega)).mpr (by omega))]
        exact ih)
  rw [key, Option.bind_some]
theorem r_d44 {gh : Nat} {x : Nat} {K : XK} {h : XH} (I : Inv gh x K h) {k14 : XH → Int32 → Int32 → Int32 → Int32 → Option (Int32 × XH)} {k30 : XH → Int32 → Int32 → Int32 → Int32 → Int32 → Int32 → Int32 → Option (Int32 × XH)} {v1 v2 v3 : Int32} {p : Nat} (hp : (p : Int) < wd x h 1) {c a b : Int} (hc : 0 ≤ c ∧ c < 52) :
    f_X12_dullest_44 k14 k30 x x_FU h v1 v2 v3 (jI c) (jI a) (jI b) (jI p) (jI 0) = k30 h v1 v2 v3 (jI c) (jI (a + tp_ (wd x h) p c)) (jI (b + mp_ (wd x h) p c)) (jI p + 1) := by
  have w1 := I.w1
  obtain ⟨-, -, -, -, -, -, p7, p8, -, -, -, -, p13, -⟩ := I.wp hp
  have o2 : f_X12_of x h (jI p) 2 = some (jI (wd x h (290 + 81 * p + 2))) := of_2 (by omega)
  have ip := r_isp I hp
  by_cases cq : 0 < wd x h (290 + 81 * p + 3)
  · rw [if_pos cq] at ip
    have e1 : tp_ (wd x h) p c = tc_ (wd x h) p c (wd x h (290 + 81 * p + 2)).toNat := if_pos cq
    have e2 : mp_ (wd x h) p c = mc_ (wd x h) p c (wd x h (290 + 81 * p + 2)).toNat := if_pos cq
    rw [e1, e2]
    have key := x_up0 (P := fun m n => f_X12_dullest_44 k14 k30 x m h v1 v2 v3 (jI c) (jI (a + tc_ (wd x h) p c n)) (jI (b + mc_ (wd x h) p c n)) (jI p) (jI (n : Int)) = k30 h v1 v2 v3 (jI c) (jI (a + tc_ (wd x h) p c (wd x h (290 + 81 * p + 2)).toNat)) (jI (b + mc_ (wd x h) p c (wd x h (290 + 81 * p + 2)).toNat)) (jI p + 1)) (wd x h (290 + 81 * p + 2)).toNat (by omega) (fun m => by
      unfold f_X12_dullest_44
      rw [o2, Option.bind_some, if_pos ((jI_le (by omega) (by omega) (by omega) (by omega)).mpr (by omega))]
      rfl) (fun m n hn ih => by
      have a1 := jI_s n
      have f1 : tc_ (wd x h) p c (n + 1) = tc_ (wd x h) p c n + (if cd_ (wd x h) p n = c then 1 else 0) := rfl
      have f2 : mc_ (wd x h) p c (n + 1) = mc_ (wd x h) p c n + (if cd_ (wd x h) p n = c ∧ wd x h (290 + 81 * p + 29 + n) ≠ c then 1 else 0) := rfl
      have cb := cd_b (wd x h) p n
      have kb := kd_b (w := wd x h) (p := p) (i := (n : Int))
      rw [f_X12_dullest_44, o2, Option.bind_some, if_neg (fun q => absurd ((jI_le (by omega) (by omega) (by omega) (by omega)).mp q) (by omega)), ip, Option.bind_some, if_neg (show ¬ jI 1 = (0 : Int32) by decide), r_card I hp (by omega), Option.bind_some, r_kind I hp cq (by omega), Option.bind_some, xl_]
      unfold f_X12_dullest_105
      rw [a1]
      rw [f1, f2, ← Int.add_assoc, ← Int.add_assoc] at ih
      by_cases d : cd_ (wd x h) p n = c
      · rw [if_pos d] at ih
        rw [if_pos (by rw [d])]
        have k0 := kd_0 (w := wd x h) (p := p) (i := (n : Int))
        rw [d, Int.toNat_natCast] at k0
        by_cases u : wd x h (290 + 81 * p + 29 + n) = c
        · rw [if_neg (fun q => q.2 u)] at ih
          rw [if_pos (by rw [k0.mpr u]; rfl), show (0 : Int32) = jI 0 from rfl, show (1 : Int32) = jI 1 from rfl, jI_add, jI_add]
          exact ih
        · rw [if_pos ⟨d, u⟩] at ih
          rw [if_neg (j_ne0 (fun q => u (k0.mp q)) (by omega) (by omega)), show (1 : Int32) = jI 1 from rfl, jI_add, jI_add]
          exact ih
      · rw [if_neg d, if_neg (fun q => d q.1), Int.add_zero, Int.add_zero] at ih
        rw [if_neg (fun q => d ((jI_eq (by omega) (by omega) (by omega) (by omega)).mp q))]
        exact ih)
    have z1 : tc_ (wd x h) p c 0 = 0 := rfl
    have z2 : mc_ (wd x h) p c 0 = 0 := rfl
    rw [z1, z2, Int.add_zero, Int.add_zero] at key
    exact key
  · rw [if_neg cq] at ip
    have e1 : tp_ (wd x h) p c = 0 := if_neg cq
    have e2 : mp_ (wd x h) p c = 0 := if_neg cq
    rw [e1, e2, Int.add_zero, Int.add_zero]
    show f_X12_dullest_44 k14 k30 x (99999 + 1) h v1 v2 v3 (jI c) (jI a) (jI b) (jI p) (jI 0) = _
    rw [f_X12_dullest_44, o2, Option.bind_some, if_neg (fun q => absurd ((jI_le (by omega) (by omega) (by omega) (by omega)).mp q) (by omega)), ip, Option.bind_some, if_pos (show jI 0 = (0 : Int32) from rfl)]
    rfl
theorem r_d30 {gh : Nat} {x : Nat} {K : XK} {h : XH} (I : Inv gh x K h) {k14 : XH → Int32 → Int32 → Int32 → Int32 → Option (Int32 × XH)} {v1 v2 v3 : Int32} {c : Int} (hc : 0 ≤ c ∧ c < 52) :
    f_X12_dullest_30 k14 x x_FU h v1 v2 v3 (jI c) (jI 0) (jI 0) (jI 0) = k14 h (if v2 * jI (tA_ (wd x h) c (wd x h 1).toNat) < jI (mA_ (wd x h) c (wd x h 1).toNat) * v3 then jI c else v1) (if v2 * jI (tA_ (wd x h) c (wd x h 1).toNat) < jI (mA_ (wd x h) c (wd x h 1).toNat) * v3 then jI (mA_ (wd x h) c (wd x h 1).toNat) else v2) (if v2 * jI (tA_ (wd x h) c (wd x h 1).toNat) < jI (mA_ (wd x h) c (wd x h 1).toNat) * v3 then jI (tA_ (wd x h) c (wd x h 1).toNat) else v3) (jI c + 1) := by
  have w1 := I.w1
  refine x_up0 (P := fun m n => f_X12_dullest_30 k14 x m h v1 v2 v3 (jI c) (jI (tA_ (wd x h) c n)) (jI (mA_ (wd x h) c n)) (jI (n : Int)) = k14 h (if v2 * jI (tA_ (wd x h) c (wd x h 1).toNat) < jI (mA_ (wd x h) c (wd x h 1).toNat) * v3 then jI c else v1) (if v2 * jI (tA_ (wd x h) c (wd x h 1).toNat) < jI (mA_ (wd x h) c (wd x h 1).toNat) * v3 then jI (mA_ (wd x h) c (wd x h 1).toNat) else v2) (if v2 * jI (tA_ (wd x h) c (wd x h 1).toNat) < jI (mA_ (wd x h) c (wd x h 1).toNat) * v3 then jI (tA_ (wd x h) c (wd x h 1).toNat) else v3) (jI c + 1)) (wd x h 1).toNat (by omega) (fun m => by
    unfold f_X12_dullest_30
    rw [if_pos (by decide), show (1 : Int32).toNatClampNeg = 1 from rfl, wd_j, if_pos ((jI_le (by omega) (by omega) (by omega) (by omega)).mpr (by omega))]) (fun m n hn ih => by
    have a1 := jI_s n
    rw [f_X12_dullest_30, if_pos (by decide), show (1 : Int32).toNatClampNeg = 1 from rfl, wd_j, if_neg (fun q => absurd ((jI_le (by omega) (by omega) (by omega) (by omega)).mp q) (by omega)), show (0 : Int32) = jI 0 from rfl, r_d44 I (by omega) hc, a1]
    exact ih)
theorem r_d14 {gh : Nat} {x : Nat} {K : XK} {h : XH} (I : Inv gh x K h) : f_X12_dullest_14 x x_FU h (-1) 0 1 0 = some (jI (ww_ (fun c => mA_ (wd x h) c (wd x h 1).toNat) (fun c => tA_ (wd x h) c (wd x h 1).toNat) 52), h) := by
  have w1 := I.w1
  have b : ∀ c : Int, 0 ≤ tA_ (wd x h) c (wd x h 1).toNat ∧ tA_ (wd x h) c (wd x h 1).toNat ≤ 416 ∧ 0 ≤ mA_ (wd x h) c (wd x h 1).toNat ∧ mA_ (wd x h) c (wd x h 1).toNat ≤ 416 := fun c => by
    have := tA_b (w := wd x h) (c := c) (k := (wd x h 1).toNat) (fun p hp => (I.wp (q := p) (by omega)).2.2.2.2.2.2.2.1)
    omega
  have r30 : ∀ (k14 : XH → Int32 → Int32 → Int32 → Int32 → Option (Int32 × XH)) (v1 v2 v3 : Int32) (c : Int), 0 ≤ c → c < 52 → _ := fun k14 v1 v2 v3 c h1 h2 => r_d30 I (k14 := k14) (v1 := v1) (v2 := v2) (v3 := v3) (c := c) ⟨h1, h2⟩
  generalize hM : (fun c => mA_ (wd x h) c (wd x h 1).toNat) = M
  generalize hQ : (fun c => tA_ (wd x h) c (wd x h 1).toNat) = Q
  have eM : ∀ c, mA_ (wd x h) c (wd x h 1).toNat = M c := fun c => by rw [← hM]
  have eQ : ∀ c, tA_ (wd x h) c (wd x h 1).toNat = Q c := fun c => by rw [← hQ]
  simp only [eM, eQ] at r30 b
  refine x_up0 (P := fun m n => f_X12_dullest_14 x m h (jI (ww_ M Q n)) (jI (if ww_ M Q n = -1 then 0 else M (ww_ M Q n))) (jI (if ww_ M Q n = -1 then 1 else Q (ww_ M Q n))) (jI (n : Int)) = some (jI (ww_ M Q 52), h)) 52 (by omega) (fun m => by
    unfold f_X12_dullest_14
    rw [if_pos (by decide)]) (fun m n hn ih => by
    have a1 := jI_s n
    have wb := ww_b (M := M) (Q := Q) n
    have bn := b n
    rw [f_X12_dullest_14, if_neg (show ¬ (52 : Int32) ≤ jI (n : Int) from fun q => absurd ((jI_le (a := 52) (by omega) (by omega) (by omega) (by omega)).mp q) (by omega)), show (0 : Int32) = jI 0 from rfl, r30 _ _ _ _ _ (by omega) (by omega), a1, jI_mul, jI_mul]
    conv at ih => lhs; unfold ww_
    by_cases d : ww_ M Q n = -1
    · rw [if_pos d, if_pos d, Int.zero_mul, Int.mul_one]
      by_cases c : 0 < M n
      · rw [if_pos ⟨c, Or.inl d⟩, if_neg (show ¬ ((n : Int) = -1) by omega), if_neg (show ¬ ((n : Int) = -1) by omega)] at ih
        have lt : jI 0 < jI (M n) := (jI_lt (by omega) (by omega) (by omega) (by omega)).mpr c
        rw [if_pos lt, if_pos lt, if_pos lt]
        exact ih
      · rw [if_neg (fun q => c q.1), if_pos d, if_pos d] at ih
        have lt : ¬ jI 0 < jI (M n) := fun q => c ((jI_lt (by omega) (by omega) (by omega) (by omega)).mp q)
        rw [if_neg lt, if_neg lt, if_neg lt]
        exact ih
    · rw [if_neg d, if_neg d]
      have bu := b (ww_ M Q n)
      have p1 := pr_b bn.2.2.1 bn.2.2.2 bu.1 bu.2.1
      have p2 := pr_b bu.2.2.1 bu.2.2.2 bn.1 bn.2.1
      by_cases e : M (ww_ M Q n) * Q n < M n * Q (ww_ M Q n)
      · have c : 0 < M n := by
          by_cases c : 0 < M n
          · exact c
          · have z : M n = 0 := by omega
            rw [z, Int.zero_mul] at e
            omega
        rw [if_pos ⟨c, Or.inr e⟩, if_neg (show ¬ ((n : Int) = -1) by omega), if_neg (show ¬ ((n : Int) = -1) by omega)] at ih
        have lt : jI (M (ww_ M Q n) * Q n) < jI (M n * Q (ww_ M Q n)) := (jI_lt (by omega) (by omega) (by omega) (by omega)).mpr e
        rw [if_pos lt, if_pos lt, if_pos lt]
        exact ih
      · rw [if_neg (fun q => q.2.elim d e), if_neg d, if_neg d] at ih
        have lt : ¬ jI (M (ww_ M Q n) * Q n) < jI (M n * Q (ww_ M Q n)) := fun q => e ((jI_lt (by omega) (by omega) (by omega) (by omega)).mp q)
        rw [if_neg lt, if_neg lt, if_neg lt]
        exact ih)
theorem tk_ {x : Nat} {K : XK} {h : XH} (T : x_T x K h) {j : Nat} {q : Nat × Nat} (hj : j < 77) (e : x_ks[j]? = some q) : K (x + j) = q := by
  have := T.1 j hj
  rw [e] at this
  exact Option.some.inj this
theorem P_row37 {gh : Nat} {x : Nat} {K : XK} {h : XH} (T : x_T x K h) (I : Inv gh x K h) : ∃ h', f_row37 K x h = some h' ∧ Inv gh x K h' := by
  obtain ⟨h2, g1, g2, g3⟩ := c_most I (by rw [tk_ T (j := 60) (by omega) rfl]) (by rw [tk_ T (j := 61) (by omega) rfl])
  have F : Fr x h h2 := Fr.o2 g2 g3 (by decide) (by decide)
  have J := (I.fr F).m0
  have ew : wd x (x_i h2 (x + 64) 0 (jI 0)) = wd x h := by rw [wm0, F.ew]
  have r := r_d14 J
  rw [ew] at r
  refine ⟨x_i h2 (x + 64) 0 (jI 0), ?_, J⟩
  unfold f_row37 f_X12_dullest
  rw [g1, Option.bind_some, xl_, show x_i h2 (x + 64) 0 (0 : Int32) = x_i h2 (x + 64) 0 (jI 0) from rfl, r, Option.bind_some, if_pos rfl]
