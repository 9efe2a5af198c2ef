/-! ===== weights of slips ===== -/
def wc_ (k : Int) : Int := if k = 1 then 3 else if k = 2 then 3 else if k = 5 then 1 else 2
def wt_ (f : Int → Int) (k : Int) : Int := if k ≠ 1 ∧ f k < 0 then 0 else wc_ k
def wA_ (f : Int → Int) (n : Nat) : Int := sm_ n (fun j => wt_ f ((j : Int) + 1))
theorem wt_b {f : Int → Int} {k : Int} : 0 ≤ wt_ f k ∧ wt_ f k ≤ 3 := by
  unfold wt_ wc_
  split
  · omega
  · split
    · omega
    · split
      · omega
      · split <;> omega
theorem wA_b {f : Int → Int} {n : Nat} : 0 ≤ wA_ f n ∧ wA_ f n ≤ n * 3 := by
  have h := sm_b (n := n) (f := fun j => wt_ f ((j : Int) + 1)) (lo := 0) (hi := 3) (fun j _ => wt_b)
  unfold wA_
  omega
theorem wA_5 {f : Int → Int} : 3 ≤ wA_ f 5 ∧ wA_ f 5 ≤ 15 := by
  have a1 : wA_ f 5 = 0 + wt_ f (((0 : Nat) : Int) + 1) + wt_ f (((1 : Nat) : Int) + 1) + wt_ f (((2 : Nat) : Int) + 1) + wt_ f (((3 : Nat) : Int) + 1) + wt_ f (((4 : Nat) : Int) + 1) := rfl
  have e1 : wt_ f (((0 : Nat) : Int) + 1) = 3 := by simp [wt_, wc_]
  have b1 := wt_b (f := f) (k := ((1 : Nat) : Int) + 1)
  have b2 := wt_b (f := f) (k := ((2 : Nat) : Int) + 1)
  have b3 := wt_b (f := f) (k := ((3 : Nat) : Int) + 1)
  have b4 := wt_b (f := f) (k := ((4 : Nat) : Int) + 1)
  omega
/-- the slips as they lie in the component -/
def SP (x : Nat) (h : XH) (f : Int → Int) : Prop := ∀ k : Int, 2 ≤ k → k ≤ 5 → h.1 (x + 50) k.toNat = jI (f k) ∧ -1 ≤ f k ∧ f k < 52
theorem c_wgt {x : Nat} {h : XH} {f : Int → Int} (hs : SP x h f) {k : Int} (hk : 1 ≤ k ∧ k ≤ 5) : f_X6_weightOf x h (jI k) = some (jI (wt_ f k)) := by
  rcases (show k = 1 ∨ k = 2 ∨ k = 3 ∨ k = 4 ∨ k = 5 by omega) with e | e | e | e | e
  · subst e
    rfl
  · subst e
    obtain ⟨s1, s2, s3⟩ := hs 2 (by omega) (by omega)
    unfold f_X6_weightOf wt_
    rw [if_neg (show ¬ jI 2 = (1 : Int32) by decide), if_neg (show ¬ jI 2 < (2 : Int32) by decide), if_neg (show ¬ (5 : Int32) < jI 2 by decide), if_pos (show x_b (jI 2) 6 = true by decide), show h.1 (x + 50) (jI 2).toNatClampNeg = _ from s1]
    by_cases c : f 2 = -1
    · rw [if_pos ((jm1 (by omega) (by omega)).mpr c), if_pos ⟨by decide, by omega⟩]
      rfl
    · rw [if_neg (fun q => c ((jm1 (by omega) (by omega)).mp q)), if_neg (fun q => absurd q.2 (by omega))]
      rfl
  · subst e
    obtain ⟨s1, s2, s3⟩ := hs 3 (by omega) (by omega)
    unfold f_X6_weightOf wt_
    rw [if_neg (show ¬ jI 3 = (1 : Int32) by decide), if_neg (show ¬ jI 3 < (2 : Int32) by decide), if_neg (show ¬ (5 : Int32) < jI 3 by decide), if_pos (show x_b (jI 3) 6 = true by decide), show h.1 (x + 50) (jI 3).toNatClampNeg = _ from s1]
    by_cases c : f 3 = -1
    · rw [if_pos ((jm1 (by omega) (by omega)).mpr c), if_pos ⟨by decide, by omega⟩]
      rfl
    · rw [if_neg (fun q => c ((jm1 (by omega) (by omega)).mp q)), if_neg (fun q => absurd q.2 (by omega))]
      rfl
  · subst e
    obtain ⟨s1, s2, s3⟩ := hs 4 (by omega) (by omega)
    unfold f_X6_weightOf wt_
    rw [if_neg (show ¬ jI 4 = (1 : Int32) by decide), if_neg (show ¬ jI 4 < (2 : Int32) by decide), if_neg (show ¬ (5 : Int32) < jI 4 by decide), if_pos (show x_b (jI 4) 6 = true by decide), show h.1 (x + 50) (jI 4).toNatClampNeg = _ from s1]
    by_cases c : f 4 = -1
    · rw [if_pos ((jm1 (by omega) (by omega)).mpr c), if_pos ⟨by decide, by omega⟩]
      rfl
    · rw [if_neg (fun q => c ((jm1 (by omega) (by omega)).mp q)), if_neg (fun q => absurd q.2 (by omega))]
      rfl
  · subst e
    obtain ⟨s1, s2, s3⟩ := hs 5 (by omega) (by omega)
    unfold f_X6_weightOf wt_
    rw [if_neg (show ¬ jI 5 = (1 : Int32) by decide), if_neg (show ¬ jI 5 < (2 : Int32) by decide), if_neg (show ¬ (5 : Int32) < jI 5 by decide), if_pos (show x_b (jI 5) 6 = true by decide), show h.1 (x + 50) (jI 5).toNatClampNeg = _ from s1]
    by_cases c : f 5 = -1
    · rw [if_pos ((jm1 (by omega) (by omega)).mpr c), if_pos ⟨by decide, by omega⟩]
      rfl
    · rw [if_neg (fun q => c ((jm1 (by omega) (by omega)).mp q)), if_neg (fun q => absurd q.2 (by omega))]
      rfl
theorem c_allw {x : Nat} {h : XH} {f : Int → Int} (hs : SP x h f) : f_X6_allWeights x h = some (jI (wA_ f 5)) := by
  unfold f_X6_allWeights
  refine x_up0 (P := fun m n => f_X6_allWeights_4 x h m (jI (wA_ f n)) (jI ((n : Int) + 1)) = some (jI (wA_ f 5))) 5 (by omega) (fun m => by
    unfold f_X6_allWeights_4
    rw [if_pos (by decide)]) (fun m n hn ih => by
    rw [f_X6_allWeights_4, if_neg (show ¬ (5 : Int32) < jI ((n : Int) + 1) from fun q => absurd ((jI_lt (a := 5) (by omega) (by omega) (by omega) (by omega)).mp q) (by omega)), c_wgt hs (by omega), Option.bind_some, jI_add, show (1 : Int32) = jI 1 from rfl, jI_add]
    exact ih)
def dr_ (f : Int → Int) : Nat → Int → Int → Int
  | 0, _, _ => -1
  | n + 1, k, r => if r < wt_ f k then f k else dr_ f n (k + 1) (r - wt_ f k)
theorem dr_b {f : Int → Int} (hf : ∀ k : Int, 2 ≤ k → k ≤ 5 → -1 ≤ f k ∧ f k < 52) : ∀ (n : Nat) (k r : Int), 2 ≤ k → k + n ≤ 6 → -1 ≤ dr_ f n k r ∧ dr_ f n k r < 52 := by
  intro n
  induction n with
  | zero => intro k r _ _; simp [dr_]
  | succ n ih =>
    intro k r h1 h2
    unfold dr_
    split
    · exact hf k h1 (by omega)
    · exact ih _ _ (by omega) (by omega)
theorem c_dr21 {x : Nat} {h : XH} {f : Int → Int} (hs : SP x h f) {r : Int} (hr : 0 ≤ r ∧ r ≤ 15) : f_X6_drawn_21 x x_FU h (jI r) (jI 2) = some (jI (dr_ f 4 2 r), h) := by
  have key := x_up0 (P := fun m n => ∀ r : Int, 0 ≤ r → r ≤ 15 → f_X6_drawn_21 x m h (jI r) (jI ((n : Int) + 2)) = some (jI (dr_ f (4 - n) ((n : Int) + 2) r), h)) 4 (by omega) (fun m r _ _ => by
    unfold f_X6_drawn_21
    rw [if_pos (by decide)]
    rfl) (fun m n hn ih r r0 r1 => by
    have wb := wt_b (f := f) (k := (n : Int) + 2)
    obtain ⟨s1, s2, s3⟩ := hs ((n : Int) + 2) (by omega) (by omega)
    rw [f_X6_drawn_21, if_neg (show ¬ (5 : Int32) < jI ((n : Int) + 2) from fun q => absurd ((jI_lt (a := 5) (by omega) (by omega) (by omega) (by omega)).mp q) (by omega)), c_wgt hs (by omega), Option.bind_some, show 4 - n = 4 - (n + 1) + 1 by omega]
    unfold dr_
    by_cases c : r < wt_ f ((n : Int) + 2)
    · rw [if_neg (fun q => absurd ((jI_le (by omega) (by omega) (by omega) (by omega)).mp q) (by omega)), if_pos c, if_pos (jI_b (by omega) (by omega) (by omega)), jI_nat (by omega) (by omega), s1]
    · rw [if_pos ((jI_le (by omega) (by omega) (by omega) (by omega)).mpr (by omega)), if_neg c, jI_sub, show (1 : Int32) = jI 1 from rfl, jI_add]
      have k := ih (r - wt_ f ((n : Int) + 2)) (by omega) (by omega)
      rw [show ((n + 1 : Nat) : Int) + 2 = (n : Int) + 2 + 1 by omega] at k
      exact k)
  exact key r hr.1 hr.2
theorem c_drw {gh : Nat} {x : Nat} {K : XK} {h : XH} {w : Nat → Int} (I : Cv gh x K h w) {p : Nat} (hp : (p : Int) < w 1) (hq : 0 < w (290 + 81 * p + 3)) {i : Int} (hi : 0 ≤ i ∧ i < w (290 + 81 * p + 2)) {d : Int} (hd : 0 ≤ d ∧ d < 2147483648) :
    ∃ h2, f_X6_drawn x h (jI p) (jI i) (jI d) = some (jI (dr_ (sl_ w p i) 4 2 (d % wA_ (sl_ w p i) 5)), h2) ∧ (∀ a, a ≠ x + 50 → h2.1 a = h.1 a) ∧ h2.2 = h.2 := by
  obtain ⟨h2, g1, g2, g3, g4⟩ := vc_find I hp hq hi
  have hs : SP x h2 (sl_ w p i) := fun k k1 k2 => ⟨g4 k k1 k2, vsl_b I⟩
  have b := wA_5 (f := sl_ w p i)
  have m0 : 0 ≤ d % wA_ (sl_ w p i) 5 := Int.emod_nonneg _ (by omega)
  have m1 : d % wA_ (sl_ w p i) 5 < wA_ (sl_ w p i) 5 := Int.emod_lt_of_pos _ (by omega)
  refine ⟨h2, ?_, g2, g3⟩
  have mx : f_J9_max_7cf53 h2 1 (jI (wA_ (sl_ w p i) 5)) = jI (wA_ (sl_ w p i) 5) := by
    unfold f_J9_max_7cf53
    rw [if_pos (show (1 : Int32) < jI (wA_ (sl_ w p i) 5) from (jI_lt (a := 1) (by omega) (by omega) (by omega) (by omega)).mpr (by omega))]
  unfold f_X6_drawn
  rw [g1, Option.bind_some, c_allw hs, Option.bind_some, mx, if_neg (j_ne0 (by omega) (by omega) (by omega)), xl_, jI_rem (by omega) (by omega) (by omega) (by omega), show (2 : Int32) = jI 2 from rfl, c_dr21 hs (by omega)]
/-! the reference -/
theorem r_wgt {gh : Nat} {x : Nat} {K : XK} {h : XH} (I : Rv gh x K h) {p : Nat} (hp : (p : Int) < wd x h 1) (hq : 0 < wd x h (290 + 81 * p + 3)) {i : Int} (hi : 0 ≤ i ∧ i < wd x h (290 + 81 * p + 2)) {k : Int} (hk : 1 ≤ k ∧ k ≤ 5) : f_X12_weightOf x h (jI p) (jI i) (jI k) = some (jI (wt_ (sl_ (wd x h) p i) k)) := by
  have wk : f_X12_weight h (jI k) = jI (wc_ k) := by
    rcases (show k = 1 ∨ k = 2 ∨ k = 3 ∨ k = 4 ∨ k = 5 by omega) with e | e | e | e | e <;> subst e <;> rfl
  unfold f_X12_weightOf f_X12_weightOf_19 wt_
  by_cases c : k = 1
  · rw [if_pos (by rw [c]; rfl), wk, if_neg (fun q => q.1 c)]
  · have sb := ssl_b I (p := p) (i := i) (k := k)
    rw [if_neg (show ¬ jI k = (1 : Int32) from fun q => c ((jI_eq (b := 1) (by omega) (by omega) (by omega) (by omega)).mp q)), sr_slip I hp hq hi (by omega), Option.bind_some, wk]
    by_cases d : sl_ (wd x h) p i k < 0
    · rw [if_neg (fun q => absurd ((jge0 (by omega) (by omega)).mp q) (by omega)), if_pos ⟨c, d⟩]
      rfl
    · rw [if_pos ((jge0 (by omega) (by omega)).mpr (by omega)), if_neg (fun q => d q.2)]
theorem r_allw {gh : Nat} {x : Nat} {K : XK} {h : XH} (I : Rv gh x K h) {p : Nat} (hp : (p : Int) < wd x h 1) (hq : 0 < wd x h (290 + 81 * p + 3)) {i : Int} (hi : 0 ≤ i ∧ i < wd x h (290 + 81 * p + 2)) : f_X12_allWeights x h (jI p) (jI i) = some (jI (wA_ (sl_ (wd x h) p i) 5)) := by
  unfold f_X12_allWeights
  refine x_up0 (P := fun m n => f_X12_allWeights_8 x h m (jI p) (jI i) (jI (wA_ (sl_ (wd x h) p i) (n + 1))) (jI ((n : Int) + 2)) = some (jI (wA_ (sl_ (wd x h) p i) 5))) 4 (by omega) (fun m => by
    unfold f_X12_allWeights_8
    rw [if_pos (by decide)]) (fun m n hn ih => by
    rw [f_X12_allWeights_8, if_neg (show ¬ (6 : Int32) ≤ jI ((n : Int) + 2) from fun q => absurd ((jI_le (a := 6) (by omega) (by omega) (by omega) (by omega)).mp q) (by omega)), r_wgt I hp hq hi (by omega), Option.bind_some, jI_add, show (1 : Int32) = jI 1 from rfl, jI_add]
    have e : wA_ (sl_ (wd x h) p i) (n + 1 + 1) = wA_ (sl_ (wd x h) p i) (n + 1) + wt_ (sl_ (wd x h) p i) (((n + 1 : Nat) : Int) + 1) := rfl
    rw [e, show ((n + 1 : Nat) : Int) + 2 = (n : Int) + 2 + 1 by omega, show ((n + 1 : Nat) : Int) + 1 = (n : Int) + 2 by omega] at ih
    exact ih)
/-! ===== the greatest common part ===== -/
theorem lI_N (n : Nat) : lI (n : Int) = lN n := Int64.ofInt_eq_ofNat
theorem gc_2 {a b : Nat} (hb : 0 < b) {k : Nat} (hk : b < 2 ^ (k + 1)) (hr : 0 < a % b) : b % (a % b) < 2 ^ k := by
  have h1 : a % b < b := Nat.mod_lt _ hb
  have h2 : b % (a % b) < a % b := Nat.mod_lt _ hr
  have h3 : b % (a % b) + a % b ≤ b := by
    have e := Nat.div_add_mod b (a % b)
    have q : 1 ≤ b / (a % b) := (Nat.le_div_iff_mul_le hr).mpr (by omega)
    have : a % b * 1 ≤ a % b * (b / (a % b)) := Nat.mul_le_mul_left _ q
    omega
  rw [Nat.pow_succ] at hk
  omega
theorem r_gcd {h : XH} : ∀ (k a b m : Nat), b < 2 ^ k → 2 * k < m → a < 2147483648 → b < 2147483648 → f_X12_common_10 h m (jI (a : Int)) (jI (b : Int)) = some (jI (Nat.gcd a b : Int)) := by
  have z : ∀ (a m : Nat), f_X12_common_10 h (m + 1) (jI (a : Int)) (jI ((0 : Nat) : Int)) = some (jI (Nat.gcd a 0 : Int)) := fun a m => by
    rw [f_X12_common_10, if_pos (by decide), Nat.gcd_zero_right]
  have st : ∀ (a b m : Nat), 0 < b → a < 2147483648 → b < 2147483648 → f_X12_common_10 h (m + 1) (jI (a : Int)) (jI (b : Int)) = f_X12_common_10 h m (jI (b : Int)) (jI ((a % b : Nat) : Int)) := fun a b m hb h1 h2 => by
    rw [f_X12_common_10, if_neg (show ¬ jI (b : Int) ≤ (0 : Int32) from fun q => absurd ((jI_le (b := 0) (by omega) (by omega) (by omega) (by omega)).mp q) (by omega)), if_neg (j_ne0 (by omega) (by omega) (by omega)), jI_rem (by omega) (by omega) (by omega) (by omega)]
    rfl
  intro k
  induction k with
  | zero =>
    intro a b m hb hm h1 h2
    obtain ⟨m, rfl⟩ : ∃ m', m = m' + 1 := ⟨m - 1, by omega⟩
    rw [show b = 0 by omega]
    exact z a m
  | succ k ih =>
    intro a b m hb hm h1 h2
    obtain ⟨m, rfl⟩ : ∃ m', m = m' + 1 + 1 := ⟨m - 2, by omega⟩
    by_cases c : b = 0
    · rw [c]
      exact z a (m + 1)
    · have hr := Nat.mod_lt a (show b > 0 by omega)
      rw [st a b _ (by omega) h1 h2]
      by_cases d : a % b = 0
      · rw [d, z b m, Nat.gcd_comm a b, Nat.gcd_rec b a, d, Nat.gcd_zero_left, Nat.gcd_zero_right]
      · have hr2 := Nat.mod_lt b (show a % b > 0 by omega)
        rw [st b (a % b) _ (by omega) h2 (by omega), ih (a % b) (b % (a % b)) m (gc_2 (by omega) hb (by omega)) (by omega) (by omega) (by omega)]
        rw [Nat.gcd_comm a b, Nat.gcd_rec b a, Nat.gcd_rec (a % b) b, Nat.gcd_comm]
theorem lI_rem {a b : Nat} (ha : a < 2 ^ 63) (h0 : 0 < b) (hb : b < 2 ^ 63) : x_lrem (lI (a : Int)) (lI (b : Int)) = lI ((a % b : Nat) : Int) := by
  show lI (a : Int) - lI (a : Int) / lI (b : Int) * lI (b : Int) = _
  rw [lI_N, lI_N, lI_N, pk_lRem ha h0 hb]
theorem lI_0 {b : Nat} (h : b < 2 ^ 63) : lI (b : Int) = 0 ↔ b = 0 := by
  rw [lI_N]
  show lN b = lN 0 ↔ _
  exact pk_lEQ h (by decide)
theorem c_gcd {h : XH} : ∀ (k a b m s : Nat), b < 2 ^ k → 2 * k < m → s + 2 * k < 100 → 0 < a ∨ 0 < b → a < 2 ^ 63 → b < 2 ^ 63 → f_X11_commonPart_31 h m (lI (a : Int)) (lI (b : Int)) (jI (s : Int)) = some (lI (Nat.gcd a b : Int)) := by
  have z : ∀ (a m s : Nat), s < 100 → 0 < a → a < 2 ^ 63 → f_X11_commonPart_31 h (m + 1) (lI (a : Int)) (lI ((0 : Nat) : Int)) (jI (s : Int)) = some (lI (Nat.gcd a 0 : Int)) := fun a m s hs ha hb => by
    rw [f_X11_commonPart_31, if_neg (show ¬ (100 : Int32) ≤ jI (s : Int) from fun q => absurd ((jI_le (a := 100) (by omega) (by omega) (by omega) (by omega)).mp q) (by omega)), if_pos (show lg_cmp (lI ((0 : Nat) : Int)) 0 = 0 from lgc0.mpr rfl), Nat.gcd_zero_right]
    unfold f_X11_commonPart_66
    have e : lg_cmp (lI (a : Int)) 1 = _ := lI_cmp (a := (a : Int)) (b := 1) (by omega) (by omega) (by omega) (by omega)
    rw [e, if_pos]
    split
    · decide
    · split
      · decide
      · omega
  have st : ∀ (a b m s : Nat), s < 100 → 0 < b → a < 2 ^ 63 → b < 2 ^ 63 → f_X11_commonPart_31 h (m + 1) (lI (a : Int)) (lI (b : Int)) (jI (s : Int)) = f_X11_commonPart_31 h m (lI (b : Int)) (lI ((a % b : Nat) : Int)) (jI ((s + 1 : Nat) : Int)) := fun a b m s hs hb h1 h2 => by
    rw [f_X11_commonPart_31, if_neg (show ¬ (100 : Int32) ≤ jI (s : Int) from fun q => absurd ((jI_le (a := 100) (by omega) (by omega) (by omega) (by omega)).mp q) (by omega)), if_neg (fun q => absurd ((lI_0 h2).mp (lgc0.mp q)) (by omega)), if_neg (fun q => absurd ((lI_0 h2).mp q) (by omega)), lI_rem h1 hb h2, jI_s]
  intro k
  induction k with
  | zero =>
    intro a b m s hb hm hs hp h1 h2
    obtain ⟨m, rfl⟩ : ∃ m', m = m' + 1 := ⟨m - 1, by omega⟩
    rw [show b = 0 by omega]
    exact z a m s (by omega) (by omega) h1
  | succ k ih =>
    intro a b m s hb hm hs hp h1 h2
    obtain ⟨m, rfl⟩ : ∃ m', m = m' + 1 + 1 := ⟨m - 2, by omega⟩
    by_cases c : b = 0
    · rw [c]
      exact z a (m + 1) s (by omega) (by omega) h1
    · have hr := Nat.mod_lt a (show b > 0 by omega)
      rw [st a b _ s (by omega) (by omega) h1 h2]
      by_cases d : a % b = 0
      · rw [d, z b m _ (by omega) (by omega) h2, Nat.gcd_comm a b, Nat.gcd_rec b a, d, Nat.gcd_zero_left, Nat.gcd_zero_right]
      · have hr2 := Nat.mod_lt b (show a % b > 0 by omega)
        rw [st b (a % b) _ _ (by omega) (by omega) h2 (by omega), ih (a % b) (b % (a % b)) m (s + 1 + 1) (gc_2 (by omega) hb (by omega)) (by omega) (by omega) (by omega) (by omega) (by omega)]
        rw [Nat.gcd_comm a b, Nat.gcd_rec b a, Nat.gcd_rec (a % b) b, Nat.gcd_comm]
