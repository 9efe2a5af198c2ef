/-! ===== guesses, reference ===== -/
def G2 (x : Nat) (h h1 : XH) : Prop := Fr x h h1 ∧ h1.1 (x + 71) = h.1 (x + 71) ∧ h1.1 (x + 72) = h.1 (x + 72) ∧ h1.1 (x + 64) 0 = h.1 (x + 64) 0 ∧ h1.2 = h.2
theorem G2.rf {x : Nat} {h : XH} : G2 x h h := ⟨Fr.rf, rfl, rfl, rfl, rfl⟩
theorem G2.tr {x : Nat} {h h1 h2 : XH} (a : G2 x h h1) (b : G2 x h1 h2) : G2 x h h2 := ⟨a.1.tr b.1, b.2.1.trans a.2.1, b.2.2.1.trans a.2.2.1, b.2.2.2.1.trans a.2.2.2.1, b.2.2.2.2.trans a.2.2.2.2⟩
theorem G2.g {x : Nat} {h : XH} {j : Nat} {v : Int32} : G2 x h (x_i h (x + 73) j v) := ⟨Fr.i (by decide), gi_n (by omega), gi_n (by omega), gi_a (by omega), rfl⟩
theorem G2.m {x : Nat} {h : XH} {j : Nat} {v : Int32} (hj : j = 20 ∨ j = 21) : G2 x h (x_i h (x + 64) j v) := ⟨Fr.m (by omega) (by omega) (by omega), gi_n (by omega), gi_n (by omega), gi_k (by omega), rfl⟩
theorem G2.s {x : Nat} {h h1 : XH} (f : ∀ a, a ≠ x + 69 → a ≠ x + 70 → h1.1 a = h.1 a) (e : h1.2 = h.2) : G2 x h h1 := ⟨Fr.o2 f e (by decide) (by decide), f _ (by omega) (by omega), f _ (by omega) (by omega), by rw [f _ (by omega) (by omega)], e⟩
def bo_ (b : Bool) : Int32 := if b = true then 1 else 0
theorem r_g77 {gh : Nat} {x : Nat} {K : XK} {h : XH} (I : Inv gh x K h) {k54 : XH → Int32 → Int32 → Int32 → Int32 → Int32 → Int32 → Int32 → Int32 → Option XH} {v1 v5 v6 v7 v8 : Int32} {p M g : Nat} (hp : (p : Int) < wd x h 1) (hM : M ≤ 6) (hg : g ≤ 5) (hgM : g ≤ M) (b71 : ∀ a, a < g → h.1 (x + 71) a = jI (bx_ (wd x h) p a : Int) ∧ bx_ (wd x h) p a < 52) (l72 : ∀ k, k < M → h.1 (x + 72) k = jI (lo_ (wd x h) p k)) {left : Nat} (hl : left < 100000) {h0 : XH} (g0 : G2 x h h0) :
    ∃ h2 used' left', G2 x h0 h2 ∧ h2.1 (x + 64) = h0.1 (x + 64) ∧ f_X12_guesses_77 k54 x x_FU h0 v1 (jI p) (jI g) (jI M) v5 v6 v7 v8 (jI 0) (jI 0) 1 (jI left) (jI 0) = f_X12_guesses_77 k54 x 1 h2 v1 (jI p) (jI g) (jI M) v5 v6 v7 v8 used' (jI ((ce_ (ht9_ (wd x h) p) M g 0 0 0 true left).2 : Int)) (bo_ (ce_ (ht9_ (wd x h) p) M g 0 0 0 true left).1) left' (jI g) := by
  have w1 := I.w1
  have key := x_up0 (P := fun m n => ∀ (h1 : XH) (used right left : Nat) (each : Bool), G2 x h0 h1 → h1.1 (x + 64) = h0.1 (x + 64) → used < 64 → right ≤ n → left < 100000 → ∃ h2 used' left', G2 x h0 h2 ∧ h2.1 (x + 64) = h0.1 (x + 64) ∧ f_X12_guesses_77 k54 x m h1 v1 (jI p) (jI g) (jI M) v5 v6 v7 v8 (jI used) (jI right) (bo_ each) (jI left) (jI (n : Int)) = f_X12_guesses_77 k54 x 1 h2 v1 (jI p) (jI g) (jI M) v5 v6 v7 v8 used' (jI ((ce_ (ht9_ (wd x h) p) M (g - n) n used right each left).2 : Int)) (bo_ (ce_ (ht9_ (wd x h) p) M (g - n) n used right each left).1) left' (jI g)) g (by omega) (fun m h1 used right left each g1 e1 hu hr hl => by
    refine ⟨h1, jI used, jI left, g1, e1, ?_⟩
    rw [Nat.sub_self, f_X12_guesses_77, if_pos ((jI_le (by omega) (by omega) (by omega) (by omega)).mpr (by omega)), f_X12_guesses_77, if_pos ((jI_le (by omega) (by omega) (by omega) (by omega)).mpr (by omega))]
    rfl) (fun m n hn ih h1 used right left each g1 e1 hu hr hl => by
    have M0 : 0 < M := by omega
    have m1 : left % M < M := Nat.mod_lt _ M0
    have d1 : left / M ≤ left := Nat.div_le_self _ _
    have em : x_rem (jI (left : Int)) (jI (M : Int)) = jI ((left % M : Nat) : Int) := by
      rw [jI_rem (by omega) (by omega) (by omega) (by omega)]
      rfl
    have ed : jI (left : Int) / jI (M : Int) = jI ((left / M : Nat) : Int) := jdv (by omega) M0 (by omega)
    have oj := oj_6 hu (show left % M < 6 by omega)
    have gg : G2 x h (x_i h1 (x + 73) n (jI ((left % M : Nat) : Int))) := g0.tr (g1.tr G2.g)
    have ew := gg.1.ew
    obtain ⟨b1, b2⟩ := b71 n hn
    have e71 : (x_i h1 (x + 73) n (jI ((left % M : Nat) : Int))).1 (x + 71) n = jI (bx_ (wd x h) p n : Int) := by
      rw [gg.2.1]
      exact b1
    have e72 : (x_i h1 (x + 73) n (jI ((left % M : Nat) : Int))).1 (x + 72) (left % M) = jI (lo_ (wd x h) p (left % M : Nat)) := by
      rw [gg.2.2.1]
      exact l72 _ m1
    have cc := r_card (I.fr gg.1) (p := p) (i := (bx_ (wd x h) p n : Int)) (by rw [ew]; exact hp) (by omega)
    rw [ew] at cc
    have lb : -1 ≤ lo_ (wd x h) p (left % M : Nat) ∧ lo_ (wd x h) p (left % M : Nat) < 52 := la_b _ _ _
    have cb := cd_b (wd x h) p (bx_ (wd x h) p n)
    have eh : jI (right : Int) + (if jI (lo_ (wd x h) p (left % M : Nat)) = jI (cd_ (wd x h) p (bx_ (wd x h) p n)) then (1 : Int32) else 0) = jI ((right + ht9_ (wd x h) p n (left % M) : Nat) : Int) := by
      unfold ht9_
      by_cases q : lo_ (wd x h) p (left % M : Nat) = cd_ (wd x h) p (bx_ (wd x h) p n)
      · rw [if_pos (by rw [q]), if_pos q, show (1 : Int32) = jI 1 from rfl, jI_add]
        rfl
      · rw [if_neg (fun z => q ((jI_eq (by omega) (by omega) (by omega) (by omega)).mp z)), if_neg q, show (0 : Int32) = jI 0 from rfl, jI_add, Int.add_zero]
        rfl
    have hb := ht9_b (w := wd x h) (p := p) n (left % M)
    obtain ⟨h2, u', l', k1, k2, k3⟩ := ih (x_i h1 (x + 73) n (jI ((left % M : Nat) : Int))) (used ||| 2 ^ (left % M)) (right + ht9_ (wd x h) p n (left % M)) (left / M) (each && !used.testBit (left % M)) (g1.tr G2.g) (by rw [gi_n (by omega)]; exact e1) oj.2 (by omega) (by omega)
    refine ⟨h2, u', l', k1, k2, ?_⟩
    rw [show g - n = g - (n + 1) + 1 by omega]
    conv => rhs; unfold ce_
    rw [← k3]
    rw [f_X12_guesses_77, if_neg (fun q => absurd ((jI_le (by omega) (by omega) (by omega) (by omega)).mp q) (by omega)), if_neg (j_ne0 (by omega) (by omega) (by omega)), if_pos (jI_b (by omega) (by omega) (by omega)), em, ed, xl_, nat_ (by omega), if_neg (j_ne0 (by omega) (by omega) (by omega))]
    unfold f_X12_guesses_126 f_X12_guesses_127
    have x6 : x_b (jI (n : Int)) 6 = true := jI_b (by omega) (by omega) (by omega)
    have y6 : x_b (jI ((left % M : Nat) : Int)) 6 = true := jI_b (by omega) (by omega) (by omega)
    simp only [if_pos x6, xl_, nat_ (show n < 2147483648 by omega), gi_s, if_pos y6, nat_ (show left % M < 2147483648 by omega), e71, cc, e72, Option.bind_some, oj.1, eh]
    rw [bi_at (by omega), bi_n (by omega) (by omega), jI_s]
    cases each with
    | false =>
      rw [if_pos (show bo_ false = 0 from rfl), Bool.false_and]
      rfl
    | true =>
      rw [if_neg (show ¬ bo_ true = 0 by decide), Bool.true_and]
      cases used.testBit (left % M) <;> rfl)
  obtain ⟨h2, u', l', k1, k2, k3⟩ := key h0 0 0 left true G2.rf rfl (by omega) (by omega) hl
  exact ⟨h2, u', l', k1, k2, k3⟩
theorem pw_5 : ∀ M : Fin 7, ∀ g : Fin 6, M.val ^ g.val ≤ 7776 := by decide +kernel
theorem r_gs {gh : Nat} {x : Nat} {K : XK} {h : XH} (I : Inv gh x K h) {t p M g : Nat} (hp : (p : Int) < wd x h 1) (hq : 0 < wd x h (290 + 81 * p + 3)) (ht : (t : Int) < wd x h 3) (hM : M ≤ 6) (hg : g ≤ 5) (hgM : g ≤ M) (hb : (g : Int) ≤ kn_ (wd x h) p 1 (wd x h (290 + 81 * p + 2)).toNat) (b71 : ∀ a, a < g → h.1 (x + 71) a = jI (bx_ (wd x h) p a : Int) ∧ bx_ (wd x h) p a < 52) (l72 : ∀ k, k < M → h.1 (x + 72) k = jI (lo_ (wd x h) p k)) :
    ∃ h2, f_X12_guesses x h (jI t) (jI p) (jI g) (jI M) = some h2 ∧ G2 x h h2 ∧ h2.1 (x + 64) 20 = jI (GS_ (wd x h) t p M g) ∧ h2.1 (x + 64) 21 = jI (tN_ M g 0 : Int) := by
  have w1 := I.w1
  obtain ⟨-, -, -, -, -, -, p7, p8, -⟩ := I.wp hp
  have k2 := kn_2 (w := wd x h) (p := p) (n := (wd x h (290 + 81 * p + 2)).toNat)
  have k0 := kn_b (w := wd x h) (p := p) (k := 0) (n := (wd x h (290 + 81 * p + 2)).toNat)
  have pb : M ^ g ≤ 7776 := pw_5 ⟨M, by omega⟩ ⟨g, by omega⟩
  have tot : ∀ f : Nat → Int, sm_ (M ^ g) (fun n => if (ce_ (ht9_ (wd x h) p) M g 0 0 0 true n).1 = true then f (ce_ (ht9_ (wd x h) p) M g 0 0 0 true n).2 else 0) = tt_ (ht9_ (wd x h) p) M f g 0 0 0 := fun f => by
    by_cases c : 0 < M
    · exact ce_t c g 0 0 0
    · have e1 : g = 0 := by omega
      subst e1
      show 0 + (if true = true then f 0 else 0) = f 0
      rw [if_pos rfl, Int.zero_add]
  unfold f_X12_guesses
  have r0 := r_kns I hp hq (k := 0) (by omega)
  have r1 := r_kns I hp hq (k := 1) (by omega)
  rw [show (0 : Int32) = jI 0 from rfl, r0, Option.bind_some, show (1 : Int32) = jI 1 from rfl, r1, Option.bind_some]
  -- the numbers
  have nums : f_X12_guesses_22 x x_FU h (jI t) (jI p) (jI g) (jI M) (jI (kn_ (wd x h) p 0 (wd x h (290 + 81 * p + 2)).toNat)) (jI (kn_ (wd x h) p 1 (wd x h (290 + 81 * p + 2)).toNat)) (jI 1) (jI 0) = f_X12_guesses_54 x x_FU (x_i (x_i h (x + 64) 20 (jI 0)) (x + 64) 21 (jI 0)) (jI t) (jI p) (jI g) (jI M) (jI (kn_ (wd x h) p 0 (wd x h (290 + 81 * p + 2)).toNat)) (jI (kn_ (wd x h) p 1 (wd x h (290 + 81 * p + 2)).toNat)) (jI ((M ^ g : Nat) : Int)) (jI 0) := by
    refine x_up0 (P := fun m n => f_X12_guesses_22 x m h (jI t) (jI p) (jI g) (jI M) (jI (kn_ (wd x h) p 0 (wd x h (290 + 81 * p + 2)).toNat)) (jI (kn_ (wd x h) p 1 (wd x h (290 + 81 * p + 2)).toNat)) (jI ((M ^ n : Nat) : Int)) (jI (n : Int)) = f_X12_guesses_54 x x_FU (x_i (x_i h (x + 64) 20 (jI 0)) (x + 64) 21 (jI 0)) (jI t) (jI p) (jI g) (jI M) (jI (kn_ (wd x h) p 0 (wd x h (290 + 81 * p + 2)).toNat)) (jI (kn_ (wd x h) p 1 (wd x h (290 + 81 * p + 2)).toNat)) (jI ((M ^ g : Nat) : Int)) (jI 0)) g (by omega) (fun m => by
      rw [f_X12_guesses_22, if_pos ((jI_le (by omega) (by omega) (by omega) (by omega)).mpr (by omega))]
      rfl) (fun m n hn ih => by
      rw [f_X12_guesses_22, if_neg (fun q => absurd ((jI_le (by omega) (by omega) (by omega) (by omega)).mp q) (by omega)), jI_mul, ← Int.natCast_mul, ← Nat.pow_succ, jI_s]
      exact ih)
  rw [nums]
  have key := x_up0 (P := fun m n => ∀ h1 : XH, G2 x h h1 → h1.1 (x + 64) 20 = jI (sm_ n (fun n => if (ce_ (ht9_ (wd x h) p) M g 0 0 0 true n).1 = true then sc9_ (wd x h) t p g (ce_ (ht9_ (wd x h) p) M g 0 0 0 true n).2 else 0)) → h1.1 (x + 64) 21 = jI (sm_ n (fun n => if (ce_ (ht9_ (wd x h) p) M g 0 0 0 true n).1 = true then 1 else 0)) → ∃ h2, f_X12_guesses_54 x m h1 (jI t) (jI p) (jI g) (jI M) (jI (kn_ (wd x h) p 0 (wd x h (290 + 81 * p + 2)).toNat)) (jI (kn_ (wd x h) p 1 (wd x h (290 + 81 * p + 2)).toNat)) (jI ((M ^ g : Nat) : Int)) (jI (n : Int)) = some h2 ∧ G2 x h h2 ∧ h2.1 (x + 64) 20 = jI (GS_ (wd x h) t p M g) ∧ h2.1 (x + 64) 21 = jI (tN_ M g 0 : Int)) (M ^ g) (by omega) (fun m h1 g1 s1 s2 => by
    refine ⟨h1, ?_, g1, ?_, ?_⟩
    · rw [f_X12_guesses_54, if_pos (Int32.le_refl _)]
    · rw [s1, tot (sc9_ (wd x h) t p g)]
      rfl
    · rw [s2, tot (fun _ => 1), tN_e]) (fun m n hn ih h1 g1 s1 s2 => by
    obtain ⟨h2, u', l', q1, q2, q3⟩ := r_g77 I (k54 := f_X12_guesses_54 x m) (v1 := jI t) (v5 := jI (kn_ (wd x h) p 0 (wd x h (290 + 81 * p + 2)).toNat)) (v6 := jI (kn_ (wd x h) p 1 (wd x h (290 + 81 * p + 2)).toNat)) (v7 := jI ((M ^ g : Nat) : Int)) (v8 := jI (n : Int)) hp hM hg hgM b71 l72 (left := n) (by omega) g1
    have cr := ce_r (hit := ht9_ (wd x h) p) (M := M) ht9_b g 0 0 0 true n
    rw [f_X12_guesses_54, if_neg (fun q => absurd ((jI_le (by omega) (by omega) (by omega) (by omega)).mp q) (by omega)), show (0 : Int32) = jI 0 from rfl, q3, f_X12_guesses_77, if_pos (Int32.le_refl _)]
    unfold f_X12_guesses_233
    rw [jI_s]
    rw [← q2] at s1 s2
    rw [sm_s, sm_s] at ih
    by_cases c : (ce_ (ht9_ (wd x h) p) M g 0 0 0 true n).1 = true
    · generalize hH : (ce_ (ht9_ (wd x h) p) M g 0 0 0 true n).2 = H at cr ih
      have i5 : G2 x h (x_i h2 (x + 64) 21 (jI (sm_ n (fun n => if (ce_ (ht9_ (wd x h) p) M g 0 0 0 true n).1 = true then 1 else 0) + 1))) := g1.tr (q1.tr (G2.m (Or.inr rfl)))
      have ew := i5.1.ew
      have o2 : f_X12_of x (x_i h2 (x + 64) 21 (jI (sm_ n (fun n => if (ce_ (ht9_ (wd x h) p) M g 0 0 0 true n).1 = true then 1 else 0) + 1))) (jI p) 2 = some (jI (wd x (x_i h2 (x + 64) 21 (jI (sm_ n (fun n => if (ce_ (ht9_ (wd x h) p) M g 0 0 0 true n).1 = true then 1 else 0) + 1))) (290 + 81 * p + 2))) := of_2 (by omega)
      have rs := r_sco (I.fr i5.1) (t := t) (ri := kn_ (wd x h) p 0 (wd x h (290 + 81 * p + 2)).toNat + (H : Int)) (bl := kn_ (wd x h) p 1 (wd x h (290 + 81 * p + 2)).toNat - (g : Int)) (n := wd x h (290 + 81 * p + 2)) (by rw [ew]; exact ht) (by omega) (by omega) (by omega) p8
      rw [ew] at o2 rs
      obtain ⟨h7, r1, r2, r3⟩ := rs
      rw [show bo_ (ce_ (ht9_ (wd x h) p) M g 0 0 0 true n).1 = 1 by unfold bo_; rw [if_pos c], if_neg (by decide), xl_, s2, show (1 : Int32) = jI 1 from rfl, jI_add, o2, Option.bind_some, jI_add, jI_sub, r1, Option.bind_some, xl_, gi_k (by decide), s1, jI_add]
      rw [if_pos c, if_pos c] at ih
      exact ih _ (i5.tr ((G2.s r2 r3).tr (G2.m (Or.inl rfl)))) gi_s (by rw [gi_k (by decide), r2 _ (by omega) (by omega), gi_s])
    · rw [show bo_ (ce_ (ht9_ (wd x h) p) M g 0 0 0 true n).1 = 0 by unfold bo_; rw [if_neg c], if_pos (show (0 : Int32) = 0 from rfl)]
      rw [if_neg c, if_neg c, Int.add_zero, Int.add_zero] at ih
      exact ih h2 (g1.tr q1) s1 s2)
  exact key _ ((G2.m (Or.inl rfl)).tr (G2.m (Or.inr rfl))) (by rw [gi_k (by decide)]; exact gi_s) gi_s
theorem fl72 {gh : Nat} {x : Nat} {K : XK} {h : XH} (I : Inv gh x K h) {v1 v3 : Int32} {p M : Nat} (hp : (p : Int) < wd x h 1) (hM : M ≤ 6) : ∃ h2, f_X12_guess_94 x x_FU h v1 (jI p) v3 (jI M) (jI 0) = f_X12_guess_127 x x_FU h2 v1 (jI p) v3 (jI M) (jI 0) (jI 0) ∧ (∀ a, a ≠ x + 72 → h2.1 a = h.1 a) ∧ h2.2 = h.2 ∧ ∀ k, k < M → h2.1 (x + 72) k = jI (lo_ (wd x h) p k) := by
  have key := x_up0 (P := fun m n => ∀ h1 : XH, (∀ a, a ≠ x + 72 → h1.1 a = h.1 a) → h1.2 = h.2 → (∀ k, k < n → h1.1 (x + 72) k = jI (lo_ (wd x h) p k)) → ∃ h2, f_X12_guess_94 x m h1 v1 (jI p) v3 (jI M) (jI (n : Int)) = f_X12_guess_127 x x_FU h2 v1 (jI p) v3 (jI M) (jI 0) (jI 0) ∧ (∀ a, a ≠ x + 72 → h2.1 a = h.1 a) ∧ h2.2 = h.2 ∧ ∀ k, k < M → h2.1 (x + 72) k = jI (lo_ (wd x h) p k)) M (by omega) (fun m h1 f1 f2 f3 => by
    refine ⟨h1, ?_, f1, f2, f3⟩
    rw [f_X12_guess_94, if_pos ((jI_le (by omega) (by omega) (by omega) (by omega)).mpr (by omega))]
    rfl) (fun m n hn ih h1 f1 f2 f3 => by
    have F : Fr x h h1 := Fr.o1 f1 f2 (by decide)
    have ew := F.ew
    have lo := r_lackO (I.fr F) (p := p) (z := (n : Int)) (by rw [ew]; exact hp) (by omega)
    rw [ew] at lo
    rw [f_X12_guess_94, if_neg (fun q => absurd ((jI_le (by omega) (by omega) (by omega) (by omega)).mp q) (by omega)), lo, Option.bind_some, if_pos (jI_b (by omega) (by omega) (by omega)), xl_, nat_ (by omega), jI_s]
    exact ih _ (fun a ha => by rw [gi_n ha]; exact f1 a ha) f2 (fun k hk => by
      rw [gi_]
      by_cases e : k = n
      · rw [if_pos ⟨rfl, e⟩, e]
      · rw [if_neg (fun q => e q.2)]
        exact f3 k (by omega)))
  exact key h (fun _ _ => rfl) rfl (fun k hk => absurd hk (by omega))
theorem fl71 {gh : Nat} {x : Nat} {K : XK} {h : XH} (I : Inv gh x K h) {v1 v3 v4 : Int32} {p B : Nat} (hp : (p : Int) < wd x h 1) (hB : (B : Int) = if kn_ (wd x h) p 1 (wd x h (290 + 81 * p + 2)).toNat < 5 then kn_ (wd x h) p 1 (wd x h (290 + 81 * p + 2)).toNat else 5) : ∃ h2, f_X12_guess_127 x x_FU h v1 (jI p) v3 v4 (jI 0) (jI 0) = f_X12_guess_178 x h2 v1 (jI p) v3 v4 (jI B) ∧ (∀ a, a ≠ x + 71 → h2.1 a = h.1 a) ∧ h2.2 = h.2 ∧ ∀ a, a < B → h2.1 (x + 71) a = jI (bx_ (wd x h) p a : Int) ∧ bx_ (wd x h) p a < 52 := by
  have w1 := I.w1
  obtain ⟨-, -, -, -, -, -, p7, p8, -, -, -, -, p13, -⟩ := I.wp hp
  have key := x_up0 (P := fun m n => ∀ (f : Nat) (h1 : XH), kn_ (wd x h) p 1 n = f → f ≤ 5 → (∀ a, a ≠ x + 71 → h1.1 a = h.1 a) → h1.2 = h.2 → (∀ a, a < f → h1.1 (x + 71) a = jI (bx_ (wd x h) p a : Int) ∧ bx_ (wd x h) p a < 52) → ∃ h2, f_X12_guess_127 x m h1 v1 (jI p) v3 v4 (jI (f : Int)) (jI (n : Int)) = f_X12_guess_178 x h2 v1 (jI p) v3 v4 (jI B) ∧ (∀ a, a ≠ x + 71 → h2.1 a = h.1 a) ∧ h2.2 = h.2 ∧ ∀ a, a < B → h2.1 (x + 71) a = jI (bx_ (wd x h) p a : Int) ∧ bx_ (wd x h) p a < 52) (wd x h (290 + 81 * p + 2)).toNat (by omega) (fun m f h1 e0 e1 f1 f2 f3 => by
    have F : Fr x h h1 := Fr.o1 f1 f2 (by decide)
    have o2 : f_X12_of x h1 (jI p) 2 = some (jI (wd x h1 (290 + 81 * p + 2))) := of_2 (by omega)
    rw [F.ew] at o2
    have eB : B = f := by
      split at hB <;> omega
    refine ⟨h1, ?_, f1, f2, by rw [eB]; exact f3⟩
    rw [f_X12_guess_127, o2, Option.bind_some, if_pos ((jI_le (by omega) (by omega) (by omega) (by omega)).mpr (by omega)), eB]) (fun m n hn ih f h1 e0 e1 f1 f2 f3 => by
    have F : Fr x h h1 := Fr.o1 f1 f2 (by decide)
    have ew := F.ew
    have o2 : f_X12_of x h1 (jI p) 2 = some (jI (wd x h1 (290 + 81 * p + 2))) := of_2 (by omega)
    have os := of_s (x := x) (h := h1) (p := p) (i := n) (by omega) (by omega)
    rw [ew] at o2 os
    have sb := p13 n (by omega)
    have s := kn_1s (w := wd x h) (p := p) n
    have mo := kn_mo (w := wd x h) (p := p) ((wd x h (290 + 81 * p + 2)).toNat - n) n
    rw [show n + ((wd x h (290 + 81 * p + 2)).toNat - n) = (wd x h (290 + 81 * p + 2)).toNat by omega] at mo
    rw [f_X12_guess_127, o2, Option.bind_some, if_neg (fun q => absurd ((jI_le (by omega) (by omega) (by omega) (by omega)).mp q) (by omega))]
    by_cases c : 5 ≤ f
    · have eB : B = f := by
        split at hB <;> omega
      refine ⟨h1, ?_, f1, f2, by rw [eB]; exact f3⟩
      rw [if_pos (show (5 : Int32) ≤ jI (f : Int) from (jI_le (a := 5) (by omega) (by omega) (by omega) (by omega)).mpr (by omega)), eB]
    · rw [if_neg (show ¬ (5 : Int32) ≤ jI (f : Int) from fun q => absurd ((jI_le (a := 5) (by omega) (by omega) (by omega) (by omega)).mp q) (by omega)), show (29 : Int32) = jI 29 from rfl, jI_add, os, Option.bind_some]
      unfold f_X12_guess_172
      rw [jI_s n]
      by_cases d : wd x h (290 + 81 * p + 29 + n) < 0
      · have bn : bF_ (wd x h) p n = true := decide_eq_true d
        rw [if_pos bn] at s
        have ebx := bx_at (w := wd x h) (p := p) (i := n) (k := f) hn bn e0
        rw [if_pos ((jlt0 (by omega) (by omega)).mpr d), if_pos (jI_b (by omega) (by omega) (by omega)), xl_, nat_ (by omega), jI_s f]
        exact ih (f + 1) _ (by omega) (by omega) (fun a ha => by rw [gi_n ha]; exact f1 a ha) f2 (fun a ha => by
          rw [gi_]
          by_cases e : a = f
          · rw [if_pos ⟨rfl, e⟩, e, ebx]
            exact ⟨rfl, by omega⟩
          · rw [if_neg (fun q => e q.2)]
            exact f3 a (by omega))
      · have bn : ¬ bF_ (wd x h) p n = true := by
          unfold bF_
          rw [decide_eq_true_iff]
          exact d
        rw [if_neg bn, Int.add_zero] at s
        rw [if_neg (fun q => d ((jlt0 (by omega) (by omega)).mp q))]
        exact ih f h1 (by omega) e1 f1 f2 f3)
  exact key 0 h rfl (by omega) (fun _ _ => rfl) rfl (fun a ha => absurd ha (by omega))
/-- what is answered -/
def gv_ (q : Nat × Int × Int) (z : Int) : Int32 := if z = 0 then jI (q.1 : Int) else if z = 1 then jI (q.2.1.tdiv (Nat.gcd q.2.1.natAbs q.2.2.toNat : Nat)) else jI (q.2.2.tdiv (Nat.gcd q.2.1.natAbs q.2.2.toNat : Nat))
theorem r_g190 {gh : Nat} {x : Nat} {K : XK} {h : XH} (I : Inv gh x K h) {t p M B mo : Nat} (hp : (p : Int) < wd x h 1) (hq : 0 < wd x h (290 + 81 * p + 3)) (ht : (t : Int) < wd x h 3) (hM : M ≤ 6) (hB : B ≤ 5) (hBk : (B : Int) ≤ kn_ (wd x h) p 1 (wd x h (290 + 81 * p + 2)).toNat) (hmo : mo = if B < M then B else M) {z : Int} (hz : 0 ≤ z ∧ z ≤ 2) (b71 : ∀ a, a < B → h.1 (x + 71) a = jI (bx_ (wd x h) p a : Int) ∧ bx_ (wd x h) p a < 52) (l72 : ∀ k, k < M → h.1 (x + 72) k = jI (lo_ (wd x h) p k)) :
    ∃ h2, f_X12_guess_190 x x_FU h (jI t) (jI p) (jI z) (jI M) (jI B) (jI (-1)) (jI 0) (jI 1) (jI 0) = some (gv_ (gq_ (GS_ (wd x h) t p M) (fun g => (tN_ M g 0 : Int)) mo) z, h2) ∧ G2 x h h2 := by
  have w1 := I.w1
  have mb : mo ≤ 5 ∧ mo ≤ M ∧ mo ≤ B := by split at hmo <;> omega
  have mn : ∀ h : XH, f_J9_min_7cf53 h (jI B) (jI M) = jI (mo : Int) := fun h => by
    unfold f_J9_min_7cf53
    have l : jI (M : Int) < jI (B : Int) ↔ M < B := by
      rw [jI_lt (by omega) (by omega) (by omega) (by omega)]
      omega
    by_cases c : M < B
    · rw [if_pos (l.mpr c), hmo, if_neg (by omega)]
    · rw [if_neg (fun q => c (l.mp q)), hmo]
      by_cases d : B < M
      · rw [if_pos d]
      · rw [if_neg d, show B = M by omega]
  have SB : ∀ g, g ≤ mo → -374025600 ≤ GS_ (wd x h) t p M g ∧ GS_ (wd x h) t p M g ≤ 374025600 := fun g hg => GS_b I hp ht hM (by omega) (by omega)
  have AB : ∀ g, g ≤ mo → 1 ≤ tN_ M g 0 ∧ tN_ M g 0 ≤ 720 := fun g hg => by
    have := tN_720 ⟨M, by omega⟩ ⟨g, by omega⟩
    exact ⟨this.2 (by show g ≤ M; omega), this.1⟩
  have key := x_up0 (P := fun m n => ∀ (h1 : XH) (v6 v7 v8 : Int32), G2 x h h1 → (n = 0 → v6 = jI (-1)) → (∀ g', n = g' + 1 → v6 = jI ((gq_ (GS_ (wd x h) t p M) (fun g => (tN_ M g 0 : Int)) g').1 : Int) ∧ v7 = jI (gq_ (GS_ (wd x h) t p M) (fun g => (tN_ M g 0 : Int)) g').2.1 ∧ v8 = jI (gq_ (GS_ (wd x h) t p M) (fun g => (tN_ M g 0 : Int)) g').2.2) → ∃ h2, f_X12_guess_190 x m h1 (jI t) (jI p) (jI z) (jI M) (jI B) v6 v7 v8 (jI (n : Int)) = some (gv_ (gq_ (GS_ (wd x h) t p M) (fun g => (tN_ M g 0 : Int)) mo) z, h2) ∧ G2 x h h2) (mo + 1) (by omega) (fun m h1 v6 v7 v8 g1 _ e => by
    obtain ⟨e6, e7, e8⟩ := e mo rfl
    obtain ⟨q1, q2, q3⟩ := gq_e (S := GS_ (wd x h) t p M) (A := fun g => (tN_ M g 0 : Int)) mo
    have sb := SB _ q1
    have ab := AB _ q1
    rw [q2] at e7
    rw [q3] at e8
    refine ⟨h1, ?_, g1⟩
    unfold gv_
    rw [q2, q3, Int.toNat_natCast]
    generalize (gq_ (GS_ (wd x h) t p M) (fun g => (tN_ M g 0 : Int)) mo).1 = G at *
    generalize GS_ (wd x h) t p M G = S at *
    generalize hA : tN_ M G 0 = A at *
    have gp : 0 < Nat.gcd S.natAbs A := Nat.gcd_pos_of_pos_right _ (by omega)
    have gl : Nat.gcd S.natAbs A ≤ A := Nat.gcd_le_right _ (by omega)
    rw [f_X12_guess_190, mn, if_pos ((jI_lt (by omega) (by omega) (by omega) (by omega)).mpr (by omega)), e6, e7, e8, r_com (by omega) (by omega) (by omega), Option.bind_some]
    by_cases c0 : z = 0
    · rw [if_pos (show jI z = (0 : Int32) by rw [c0]; rfl), if_pos c0]
    · rw [if_neg (j_ne0 c0 (by omega) (by omega)), if_neg c0, if_neg (j_ne0 (by omega) (by omega) (by omega)), if_neg (j_ne0 (by omega) (by omega) (by omega))]
      by_cases c1 : z = 1
      · rw [if_pos (show jI z = (1 : Int32) by rw [c1]; rfl), if_pos c1, jdz (by omega) (by omega) gp (by omega)]
      · rw [if_neg (show ¬ jI z = (1 : Int32) from fun q => c1 ((jI_eq (b := 1) (by omega) (by omega) (by omega) (by omega)).mp q)), if_neg c1, jdz (by omega) (by omega) gp (by omega)]) (fun m n hn ih h1 v6 v7 v8 g1 e0 e => by
    have ew := g1.1.ew
    have rg := r_gs (I.fr g1.1) (t := t) (p := p) (M := M) (g := n) (by rw [ew]; exact hp) (by rw [ew]; exact hq) (by rw [ew]; exact ht) hM (by omega) (by omega) (by rw [ew]; omega) (by rw [ew, g1.2.1]; exact fun a ha => b71 a (by omega)) (by rw [ew, g1.2.2.1]; exact l72)
    rw [ew] at rg
    obtain ⟨h2, r1, r2, r3, r4⟩ := rg
    have sb := SB n (by omega)
    have ab := AB n (by omega)
    rw [f_X12_guess_190, mn, if_neg (fun q => absurd ((jI_lt (by omega) (by omega) (by omega) (by omega)).mp q) (by omega)), r1, Option.bind_some, r3, r4, jI_s]
    by_cases c : n = 0
    · rw [e0 c, if_pos (show jI (-1) < (0 : Int32) by decide), if_pos (show jI (-1) < (0 : Int32) by decide), if_pos (show jI (-1) < (0 : Int32) by decide)]
      exact ih h2 _ _ _ (g1.tr r2) (fun q => absurd q (by omega)) (fun g' eg => by
        rw [show g' = 0 by omega, c]
        exact ⟨rfl, rfl, rfl⟩)
    · obtain ⟨g', rfl⟩ : ∃ g', n = g' + 1 := ⟨n - 1, by omega⟩
      obtain ⟨e6, e7, e8⟩ := e g' rfl
      obtain ⟨q1, q2, q3⟩ := gq_e (S := GS_ (wd x h) t p M) (A := fun g => (tN_ M g 0 : Int)) g'
      have sb' := SB _ (Nat.le_trans q1 (by omega))
      have ab' := AB _ (Nat.le_trans q1 (by omega))
      have nn : ¬ jI ((gq_ (GS_ (wd x h) t p M) (fun g => (tN_ M g 0 : Int)) g').1 : Int) < (0 : Int32) := fun q => absurd ((jlt0 (by omega) (by omega)).mp q) (by omega)
      rw [e6, e7, e8, if_neg nn, if_neg nn, if_neg nn, jI_l (z := GS_ (wd x h) t p M (g' + 1)) (by omega) (by omega), jI_l (z := (tN_ M (g' + 1) 0 : Int)) (by omega) (by omega), jI_l (z := (gq_ (GS_ (wd x h) t p M) (fun g => (tN_ M g 0 : Int)) g').2.1) (by rw [q2]; omega) (by rw [q2]; omega), jI_l (z := (gq_ (GS_ (wd x h) t p M) (fun g => (tN_ M g 0 : Int)) g').2.2) (by rw [q3]; omega) (by rw [q3]; omega)]
      have ee : gq_ (GS_ (wd x h) t p M) (fun g => (tN_ M g 0 : Int)) (g' + 1) = if 0 < lg_cmp (lI (GS_ (wd x h) t p M (g' + 1)) * lI (gq_ (GS_ (wd x h) t p M) (fun g => (tN_ M g 0 : Int)) g').2.2) (lI (gq_ (GS_ (wd x h) t p M) (fun g => (tN_ M g 0 : Int)) g').2.1 * lI (tN_ M (g' + 1) 0 : Int)) then (g' + 1, GS_ (wd x h) t p M (g' + 1), (tN_ M (g' + 1) 0 : Int)) else gq_ (GS_ (wd x h) t p M) (fun g => (tN_ M g 0 : Int)) g' := rfl
      refine ih h2 _ _ _ (g1.tr r2) (fun q => absurd q (by omega)) (fun g9 eg => ?_)
      rw [show g9 = g' + 1 by omega, ee]
      by_cases d : 0 < lg_cmp (lI (GS_ (wd x h) t p M (g' + 1)) * lI (gq_ (GS_ (wd x h) t p M) (fun g => (tN_ M g 0 : Int)) g').2.2) (lI (gq_ (GS_ (wd x h) t p M) (fun g => (tN_ M g 0 : Int)) g').2.1 * lI (tN_ M (g' + 1) 0 : Int))
      · rw [if_pos d, if_pos d, if_pos d, if_pos d]
        exact ⟨rfl, rfl, rfl⟩
      · rw [if_neg d, if_neg d, if_neg d, if_neg d]
        exact ⟨rfl, rfl, rfl⟩)
  exact key h _ _ _ G2.rf (fun _ => rfl) (fun g' e => absurd e (by omega))
