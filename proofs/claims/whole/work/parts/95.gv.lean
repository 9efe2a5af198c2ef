/-! ===== guesses, component ===== -/
def fnd_ (F : Nat → Bool) : Nat → Nat → Nat → Nat
  | 0, i, _ => i
  | n + 1, i, k => if F i = true then (if k = 0 then i else fnd_ F n (i + 1) (k - 1)) else fnd_ F n (i + 1) k
def bF_ (w : Nat → Int) (p i : Nat) : Bool := decide (w (290 + 81 * p + 29 + i) < 0)
def bx_ (w : Nat → Int) (p k : Nat) : Nat := fnd_ (bF_ w p) (w (290 + 81 * p + 2)).toNat 0 k
theorem kn_1s {w : Nat → Int} {p : Nat} (i : Nat) : kn_ w p 1 (i + 1) = kn_ w p 1 i + (if bF_ w p i = true then 1 else 0) := by
  show kn_ w p 1 i + (if kd_ w p i = 1 then 1 else 0) = _
  have k := kd_1 (w := w) (p := p) (i := (i : Int))
  rw [Int.toNat_natCast] at k
  congr 1
  unfold bF_
  by_cases c : w (290 + 81 * p + 29 + i) < 0
  · rw [if_pos (k.mpr c), decide_eq_true c, if_pos rfl]
  · rw [if_neg (fun q => c (k.mp q)), decide_eq_false c, if_neg (by decide)]
theorem kn_mo {w : Nat → Int} {p : Nat} : ∀ d i, kn_ w p 1 i ≤ kn_ w p 1 (i + d) := fun d => by
  induction d with
  | zero => intro i; exact Int.le_refl _
  | succ d ih =>
    intro i
    have a := ih i
    have b := kn_1s (w := w) (p := p) (i + d)
    rw [← Nat.add_assoc, b]
    split <;> omega
theorem fnd_at {w : Nat → Int} {p : Nat} : ∀ (n i j k : Nat), i ≤ j → j < i + n → bF_ w p j = true → kn_ w p 1 j - kn_ w p 1 i = k → fnd_ (bF_ w p) n i k = j := by
  intro n
  induction n with
  | zero => intro i j k h1 h2; omega
  | succ n ih =>
    intro i j k h1 h2 h3 h4
    have s := kn_1s (w := w) (p := p) i
    unfold fnd_
    by_cases c : bF_ w p i = true
    · rw [if_pos c]
      rw [if_pos c] at s
      by_cases e : i = j
      · subst e
        rw [if_pos (by omega)]
      · have m := kn_mo (w := w) (p := p) (j - (i + 1)) (i + 1)
        rw [show i + 1 + (j - (i + 1)) = j by omega] at m
        rw [if_neg (by omega)]
        exact ih (i + 1) j (k - 1) (by omega) (by omega) h3 (by omega)
    · rw [if_neg c]
      rw [if_neg c, Int.add_zero] at s
      have : i ≠ j := fun e => c (by rw [e]; exact h3)
      exact ih (i + 1) j k (by omega) (by omega) h3 (by rw [s]; exact h4)
theorem bx_at {w : Nat → Int} {p i : Nat} {k : Nat} (hi : i < (w (290 + 81 * p + 2)).toNat) (hF : bF_ w p i = true) (hk : kn_ w p 1 i = k) : bx_ w p k = i := by
  unfold bx_
  exact fnd_at _ 0 i k (by omega) (by omega) hF (by
    have z : kn_ w p 1 0 = 0 := rfl
    omega)
theorem bx_ex {w : Nat → Int} {p k : Nat} (hk : (k : Int) < kn_ w p 1 (w (290 + 81 * p + 2)).toNat) : bx_ w p k < (w (290 + 81 * p + 2)).toNat ∧ bF_ w p (bx_ w p k) = true ∧ kn_ w p 1 (bx_ w p k) = k := by
  obtain ⟨i, h1, h2, h3⟩ := up_ex (F := bF_ w p) (c := fun i => kn_ w p 1 i) rfl kn_1s (w (290 + 81 * p + 2)).toNat k hk
  rw [bx_at h1 h2 h3]
  exact ⟨h1, h2, h3⟩
/-- a guess is right -/
def ht9_ (w : Nat → Int) (p at' k : Nat) : Nat := if lo_ w p k = cd_ w p (bx_ w p at') then 1 else 0
theorem ht9_b {w : Nat → Int} {p : Nat} : ∀ a k, ht9_ w p a k ≤ 1 := fun a k => by
  unfold ht9_
  split <;> omega
def owl_ (w : Nat → Int) (p : Nat) (c : Int) : Nat → Int
  | 0 => -1
  | k + 1 => if lo_ w p k = c then (k : Int) else owl_ w p c k
theorem owl_b {w : Nat → Int} {p : Nat} {c : Int} : ∀ n, -1 ≤ owl_ w p c n ∧ owl_ w p c n < n := by
  intro n
  induction n with
  | zero => simp [owl_]
  | succ n ih =>
    unfold owl_
    split <;> omega
theorem owl_e {w : Nat → Int} {p : Nat} {c : Int} (W : WPk w (290 + 81 * p)) : ∀ n : Nat, (n : Int) ≤ lm_ w p (w (290 + 81 * p + 2)).toNat → ∀ k : Nat, k < n → (owl_ w p c n = k ↔ lo_ w p k = c) := by
  intro n
  induction n with
  | zero => intro _ k hk; omega
  | succ n ih =>
    intro hn k hk
    have b := owl_b (w := w) (p := p) (c := c) n
    unfold owl_
    by_cases e : lo_ w p n = c
    · rw [if_pos e]
      constructor
      · intro q
        rw [show k = n by omega]
        exact e
      · intro q
        have := lo_in W (k := k) (l := n) (by omega) (by omega) (by rw [q, e])
        omega
    · rw [if_neg e]
      by_cases d : k = n
      · subst d
        exact ⟨fun q => by omega, fun q => absurd q e⟩
      · exact ih (by omega) k (by omega)
theorem c_own {gh : Nat} {x : Nat} {K : XK} {h : XH} (I : Inv gh x K h) {p M mo : Nat} (hp : (p : Int) < wd x h 1) (hM : (M : Int) ≤ lm_ (wd x h) p (wd x h (290 + 81 * p + 2)).toNat) (hM6 : M ≤ 6) (hmo : (mo : Int) ≤ kn_ (wd x h) p 1 (wd x h (290 + 81 * p + 2)).toNat) (hmo5 : mo ≤ 5) :
    ∃ h2, f_X1_findOwn x h (x + 13 + 6 + 3 * p) (jI M) (jI mo) = some h2 ∧ (∀ a, a ≠ x + 52 → h2.1 a = h.1 a) ∧ h2.2 = h.2 ∧ ∀ a, a < mo → h2.1 (x + 52) a = jI (owl_ (wd x h) p (cd_ (wd x h) p (bx_ (wd x h) p a)) M) := by
  have w1 := I.w1
  obtain ⟨-, -, -, -, -, -, p7, p8, -, -, -, -, p13, -⟩ := I.wp hp
  have pk := I.pk hp
  have key := x_up0 (P := fun m n => ∀ (f : Nat) (h1 : XH), kn_ (wd x h) p 1 n = f → f ≤ mo → (∀ a, a ≠ x + 52 → h1.1 a = h.1 a) → h1.2 = h.2 → (∀ a, a < f → h1.1 (x + 52) a = jI (owl_ (wd x h) p (cd_ (wd x h) p (bx_ (wd x h) p a)) M)) → ∃ h2, f_X1_findOwn_6 x m h1 (x + 13 + 6 + 3 * p) (jI M) (jI mo) (jI (f : Int)) (jI (n : Int)) = some h2 ∧ (∀ a, a ≠ x + 52 → h2.1 a = h.1 a) ∧ h2.2 = h.2 ∧ ∀ a, a < mo → h2.1 (x + 52) a = jI (owl_ (wd x h) p (cd_ (wd x h) p (bx_ (wd x h) p a)) M)) (wd x h (290 + 81 * p + 2)).toNat (by omega) (fun m f h1 e0 e1 f1 f2 g => by
    refine ⟨h1, ?_, f1, f2, fun a ha => g a (by omega)⟩
    rw [f_X1_findOwn_6, f1 _ (by omega), pk.2.2.1, if_pos ((jI_le (by omega) (by omega) (by omega) (by omega)).mpr (by omega))]) (fun m n hn ih f h1 e0 e1 f1 f2 g => by
    have F : Fr x h h1 := Fr.o1 f1 f2 (by decide)
    have sb := p13 n (by omega)
    have es : h1.1 (x + 13 + 6 + 3 * p + 2) n = jI (wd x h (290 + 81 * p + 29 + n)) := by
      rw [f1 _ (by omega)]
      exact pk.2.2.2.2.1 n (by omega)
    have s := kn_1s (w := wd x h) (p := p) n
    rw [f_X1_findOwn_6, f1 (x + 13 + 6 + 3 * p) (by omega), pk.2.2.1, if_neg (fun q => absurd ((jI_le (by omega) (by omega) (by omega) (by omega)).mp q) (by omega))]
    by_cases c : mo ≤ f
    · refine ⟨h1, ?_, f1, f2, fun a ha => g a (by omega)⟩
      rw [if_pos ((jI_le (by omega) (by omega) (by omega) (by omega)).mpr (by omega))]
    · rw [if_neg (fun q => absurd ((jI_le (by omega) (by omega) (by omega) (by omega)).mp q) (by omega)), if_pos (jI_b (by omega) (by omega) (by omega)), nat_ (by omega), es]
      by_cases d : wd x h (290 + 81 * p + 29 + n) = -1
      · have bn : bF_ (wd x h) p n = true := decide_eq_true (by omega)
        rw [if_pos bn] at s
        have ebx := bx_at (w := wd x h) (p := p) (i := n) (k := f) hn bn e0
        rw [if_pos ((jm1 (by omega) (by omega)).mpr d), if_pos (jI_b (by omega) (by omega) (by omega)), xl_, nat_ (by omega)]
        -- the place of its own card
        have inner := x_up0 (P := fun m' k => ∀ h3 : XH, (∀ a, a ≠ x + 52 → h3.1 a = h.1 a) → h3.2 = h.2 → (∀ a, a < f → h3.1 (x + 52) a = jI (owl_ (wd x h) p (cd_ (wd x h) p (bx_ (wd x h) p a)) M)) → h3.1 (x + 52) f = jI (owl_ (wd x h) p (cd_ (wd x h) p n) k) → ∃ h2, f_X1_findOwn_43 (f_X1_findOwn_6 x m) x m' h3 (x + 13 + 6 + 3 * p) (jI M) (jI mo) (jI (f : Int)) (jI (n : Int)) (jI (k : Int)) = some h2 ∧ (∀ a, a ≠ x + 52 → h2.1 a = h.1 a) ∧ h2.2 = h.2 ∧ ∀ a, a < mo → h2.1 (x + 52) a = jI (owl_ (wd x h) p (cd_ (wd x h) p (bx_ (wd x h) p a)) M)) M (by omega) (fun m' h3 g1 g2 g3 g4 => by
          rw [f_X1_findOwn_43, if_pos ((jI_le (by omega) (by omega) (by omega) (by omega)).mpr (by omega))]
          unfold f_X1_findOwn_92
          rw [jI_s, jI_s]
          exact ih (f + 1) h3 (by omega) (by omega) g1 g2 (fun a ha => by
            by_cases e : a = f
            · rw [e, ebx]
              exact g4
            · exact g3 a (by omega))) (fun m' k hk ihk h3 g1 g2 g3 g4 => by
          have F3 : Fr x h h3 := Fr.o1 g1 g2 (by decide)
          have ew := F3.ew
          have la := c_lackA (I.fr F3) (p := p) (z := (k : Int)) (by rw [ew]; exact hp) (by omega)
          have cc := c_card (I.fr F3) (p := p) (i := (n : Int)) (by rw [ew]; exact hp) (by omega)
          rw [ew] at la cc
          have lb := la_b (w := wd x h) (p := p) (wd x h (290 + 81 * p + 2)).toNat 0 (k : Int)
          have lb' : -1 ≤ lo_ (wd x h) p k ∧ lo_ (wd x h) p k < 52 := lb
          have cb := cd_b (wd x h) p n
          have e : owl_ (wd x h) p (cd_ (wd x h) p n) (k + 1) = if lo_ (wd x h) p k = cd_ (wd x h) p n then (k : Int) else owl_ (wd x h) p (cd_ (wd x h) p n) k := rfl
          rw [f_X1_findOwn_43, if_neg (fun q => absurd ((jI_le (by omega) (by omega) (by omega) (by omega)).mp q) (by omega)), la, Option.bind_some, cc]
          unfold f_X1_findOwn_82
          rw [if_pos (jI_b (by omega) (by omega) (by omega)), xl_, if_pos (jI_b (by omega) (by omega) (by omega)), xl_, nat_ (by omega), jI_s, g4, if_pos (jI_b (by omega) (by omega) (by omega))]
          have nx : ∀ v : Int, v = owl_ (wd x h) p (cd_ (wd x h) p n) (k + 1) → ∃ h2, f_X1_findOwn_43 (f_X1_findOwn_6 x m) x m' (x_i h3 (x + 52) f (jI v)) (x + 13 + 6 + 3 * p) (jI M) (jI mo) (jI (f : Int)) (jI (n : Int)) (jI ((k + 1 : Nat) : Int)) = some h2 ∧ (∀ a, a ≠ x + 52 → h2.1 a = h.1 a) ∧ h2.2 = h.2 ∧ ∀ a, a < mo → h2.1 (x + 52) a = jI (owl_ (wd x h) p (cd_ (wd x h) p (bx_ (wd x h) p a)) M) := fun v ev => ihk _ (fun a ha => by rw [gi_n ha]; exact g1 a ha) g2 (fun a ha => by rw [gi_k (by omega)]; exact g3 a ha) (by rw [gi_s, ev])
          by_cases q : lo_ (wd x h) p k = cd_ (wd x h) p n
          · rw [if_pos (by rw [q])]
            exact nx k (by rw [e, if_pos q])
          · rw [if_neg (fun z => q ((jI_eq (by omega) (by omega) (by omega) (by omega)).mp z))]
            exact nx _ (by rw [e, if_neg q]))
        exact inner _ (fun a ha => by rw [gi_n ha]; exact f1 a ha) f2 (fun a ha => by rw [gi_k (by omega)]; exact g a ha) (by rw [gi_s]; rfl)
      · have bn : ¬ bF_ (wd x h) p n = true := by
          unfold bF_
          rw [decide_eq_true_iff]
          omega
        rw [if_neg bn, Int.add_zero] at s
        rw [if_neg (fun q => d ((jm1 (by omega) (by omega)).mp q))]
        unfold f_X1_findOwn_92
        rw [jI_s]
        exact ih f h1 (by omega) e1 f1 f2 g)
  exact key 0 h rfl (by omega) (fun _ _ => rfl) rfl (fun a ha => absurd ha (by omega))
def WS (x : Nat) (h : XH) (W : Nat → Int) : Prop := ∀ r, r < 6 → h.1 (x + 53) r = jI (W r)
def in_ (r q : Nat) : Int := if q = r then 1 else 0
theorem c_spr {x g M : Nat} {hit : Nat → Nat → Nat} {ow : Nat → Int} (hg : g ≤ 5) (hM : M ≤ 6) (how : ∀ a, a < g → -1 ≤ ow a ∧ ow a < 6 ∧ ∀ k : Nat, k < M → hit a k = if ow a = k then 1 else 0) : ∀ (rem at' used right d : Nat) (h : XH) (W : Nat → Int), at' + rem = g → used < 64 → right ≤ at' → rem < d → WS x h W → (∀ a, a < g → h.1 (x + 52) a = jI (ow a)) →
    ∃ h2, f_X1_spread x d h (jI g) (jI M) (jI at') (jI used) (jI right) = some h2 ∧ WS x h2 (fun r => W r + tt_ hit M (in_ r) rem at' used right) ∧ (∀ a, a ≠ x + 53 → h2.1 a = h.1 a) ∧ h2.2 = h.2 := by
  intro rem
  induction rem with
  | zero =>
    intro at' used right d h W e1 e2 e3 e4 ws hw
    obtain ⟨d, rfl⟩ : ∃ d', d = d' + 1 := ⟨d - 1, by omega⟩
    refine ⟨x_i h (x + 53) right (jI (W right + 1)), ?_, fun r hr => ?_, fun a ha => gi_n ha, rfl⟩
    · rw [f_X1_spread]
      unfold f_X1_spreadB f_X1_spread_10
      rw [if_pos ((jI_le (by omega) (by omega) (by omega) (by omega)).mpr (by omega)), if_pos (jI_b (by omega) (by omega) (by omega)), if_pos (jI_b (by omega) (by omega) (by omega)), xl_, nat_ (by omega), ws right (by omega), show (1 : Int32) = jI 1 from rfl, jI_add]
    · rw [gi_]
      show _ = jI (W r + in_ r right)
      unfold in_
      by_cases c : r = right
      · rw [if_pos ⟨rfl, c⟩, if_pos c.symm, c]
      · rw [if_neg (fun q => c q.2), if_neg (fun q => c q.symm), ws r hr, Int.add_zero]
  | succ rem ih =>
    intro at' used right d h W e1 e2 e3 e4 ws hw
    obtain ⟨d, rfl⟩ : ∃ d', d = d' + 1 := ⟨d - 1, by omega⟩
    obtain ⟨o1, o2, o3⟩ := how at' (by omega)
    rw [f_X1_spread]
    unfold f_X1_spreadB
    rw [if_neg (fun q => absurd ((jI_le (by omega) (by omega) (by omega) (by omega)).mp q) (by omega)), if_pos (show jI (at' : Int) < (5 : Int32) from (jI_lt (b := 5) (by omega) (by omega) (by omega) (by omega)).mpr (by omega))]
    have key := x_up0 (P := fun m n => ∀ h1 : XH, WS x h1 (fun r => W r + sm_ n (fun k => if used.testBit k = true then 0 else tt_ hit M (in_ r) rem (at' + 1) (used ||| 2 ^ k) (right + hit at' k))) → (∀ a, a ≠ x + 53 → h1.1 a = h.1 a) → h1.2 = h.2 → ∃ h2, f_X1_spread_25 (f_X1_spread x d) x m h1 (jI g) (jI M) (jI at') (jI used) (jI right) (jI (n : Int)) = some h2 ∧ WS x h2 (fun r => W r + tt_ hit M (in_ r) (rem + 1) at' used right) ∧ (∀ a, a ≠ x + 53 → h2.1 a = h.1 a) ∧ h2.2 = h.2) M (by omega) (fun m h1 s1 f1 f2 => by
      refine ⟨h1, ?_, s1, f1, f2⟩
      rw [f_X1_spread_25, if_pos ((jI_le (by omega) (by omega) (by omega) (by omega)).mpr (by omega))]) (fun m n hn ihn h1 s1 f1 f2 => by
      have hw1 : ∀ a, a < g → h1.1 (x + 52) a = jI (ow a) := fun a ha => by
        rw [f1 _ (by omega)]
        exact hw a ha
      rw [f_X1_spread_25, if_neg (fun q => absurd ((jI_le (by omega) (by omega) (by omega) (by omega)).mp q) (by omega)), bi_at (by omega), bi_n (by omega) (by omega)]
      unfold f_X1_spread_76
      rw [jI_s n]
      by_cases c : used.testBit n = true
      · rw [if_pos c, if_neg (by decide)]
        refine ihn h1 (fun r hr => ?_) f1 f2
        rw [s1 r hr]
        dsimp only
        rw [sm_s, if_pos c, Int.add_zero]
      · have oj := oj_6 e2 (show n < 6 by omega)
        have eh : jI (right : Int) + (if jI (ow at') = jI (n : Int) then (1 : Int32) else 0) = jI ((right + hit at' n : Nat) : Int) := by
          rw [o3 n hn]
          by_cases q : ow at' = n
          · rw [if_pos (by rw [q]), if_pos q, show (1 : Int32) = jI 1 from rfl, jI_add]
            rfl
          · rw [if_neg (fun z => q ((jI_eq (by omega) (by omega) (by omega) (by omega)).mp z)), if_neg q, show (0 : Int32) = jI 0 from rfl, jI_add, Int.add_zero]
            rfl
        have h1' : hit at' n ≤ 1 := by
          rw [o3 n hn]
          split <;> omega
        rw [if_neg c, if_pos rfl, if_pos (jI_b (by omega) (by omega) (by omega)), nat_ (by omega), hw1 at' (by omega), eh, oj.1, jI_s at']
        obtain ⟨h2, k1, k2, k3, k4⟩ := ih (at' + 1) (used ||| 2 ^ n) (right + hit at' n) d h1 _ (by omega) oj.2 (by omega) (by omega) s1 hw1
        rw [k1, Option.bind_some]
        refine ihn h2 (fun r hr => ?_) (fun a ha => by rw [k3 a ha, f1 a ha]) (by rw [k4, f2])
        rw [k2 r hr]
        dsimp only
        rw [sm_s, if_neg c, Int.add_assoc])
    exact key h (fun r hr => by rw [ws r hr]; dsimp only; rw [sm_0, Int.add_zero]) (fun _ _ => rfl) rfl
