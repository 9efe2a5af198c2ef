/-! ===== one state copied over another ===== -/
def CR (a v : Nat) (h h1 : XH) (S : Nat → Nat → Prop) (R : Nat → Prop) : Prop := (∀ b, b < a ∨ a + 34 ≤ b → h1.1 b = h.1 b) ∧ (∀ j k, j < 34 → S j k → h1.1 (a + j) k = h.1 (v + j) k) ∧ h1.2.1 = h.2.1 ∧ (∀ b, b ≠ a + 5 → b ≠ a + 6 → h1.2.2 b = h.2.2 b) ∧ ∀ k, R k → h1.2.2 (a + 5) k = h.2.2 (v + 5) k ∧ h1.2.2 (a + 6) k = h.2.2 (v + 6) k
theorem CR.m {a v : Nat} {h h1 : XH} {S S' : Nat → Nat → Prop} {R : Nat → Prop} (c : CR a v h h1 S R) (e : ∀ j k, S' j k → S j k) : CR a v h h1 S' R := ⟨c.1, fun j k hj hs => c.2.1 j k hj (e j k hs), c.2.2⟩
theorem CR.i {a v : Nat} {h h1 : XH} {S : Nat → Nat → Prop} {R : Nat → Prop} (d : a + 34 ≤ v ∨ v + 34 ≤ a) (c : CR a v h h1 S R) (j k : Nat) (hj : j < 34) : CR a v h (x_i h1 (a + j) k (h1.1 (v + j) k)) (fun j' k' => S j' k' ∨ j' = j ∧ k' = k) R := by
  refine ⟨fun b hb => by rw [gi_n (by omega)]; exact c.1 b hb, fun j' k' hj' hs => ?_, c.2.2⟩
  rw [gi_]
  by_cases e : a + j' = a + j ∧ k' = k
  · rw [if_pos e]
    have e1 : j' = j := by omega
    rw [e1, e.2, c.1 (v + j) (by omega)]
  · rw [if_neg e]
    exact hs.elim (fun s => c.2.1 j' k' hj' s) (fun s => absurd (show a + j' = a + j ∧ k' = k by omega) e)
theorem CR.p {a v : Nat} {h h1 : XH} {S : Nat → Nat → Prop} {R : Nat → Prop} (d : a + 34 ≤ v ∨ v + 34 ≤ a) (c : CR a v h h1 S R) (j n : Nat) (hj : j < 34) : CR a v h (x_cp h1 (v + j) 0 (a + j) 0 n) (fun j' k' => S j' k' ∨ j' = j ∧ k' < n) R := by
  have g : ∀ b k, (x_cp h1 (v + j) 0 (a + j) 0 n).1 b k = if b = a + j ∧ 0 ≤ k ∧ k < 0 + n then h1.1 (v + j) (0 + (k - 0)) else h1.1 b k := fun b k => rfl
  refine ⟨fun b hb => ?_, fun j' k' hj' hs => ?_, c.2.2⟩
  · funext k
    rw [g, if_neg (by omega), c.1 b hb]
  · rw [g]
    by_cases e : a + j' = a + j ∧ 0 ≤ k' ∧ k' < 0 + n
    · rw [if_pos e]
      have e1 : j' = j := by omega
      rw [e1, c.1 (v + j) (by omega), show 0 + (k' - 0) = k' by omega]
    · rw [if_neg e]
      exact hs.elim (fun s => c.2.1 j' k' hj' s) (fun s => absurd (show a + j' = a + j ∧ 0 ≤ k' ∧ k' < 0 + n by omega) e)
theorem gr_ (h : XH) (a j : Nat) (v : Option Nat) (b k : Nat) : (x_r h a j v).2.2 b k = if b = a ∧ k = j then v else h.2.2 b k := rfl
theorem CR.r {a v : Nat} {h h1 : XH} {S : Nat → Nat → Prop} {n : Nat} (d : a + 34 ≤ v ∨ v + 34 ≤ a) (c : CR a v h h1 S (fun k => k < n)) : CR a v h (x_r (x_r h1 (a + 5) n (h1.2.2 (v + 5) n)) (a + 6) n ((x_r h1 (a + 5) n (h1.2.2 (v + 5) n)).2.2 (v + 6) n)) S (fun k => k < n + 1) := by
  obtain ⟨c1, c2, c3, c4, c5⟩ := c
  refine ⟨c1, c2, c3, fun b n1 n2 => ?_, fun k hk => ?_⟩
  · funext j
    rw [gr_, if_neg (fun q => n2 q.1), gr_, if_neg (fun q => n1 q.1), c4 b n1 n2]
  · rw [gr_, gr_, gr_, gr_, if_neg (show ¬ (a + 5 = a + 6 ∧ k = n) by omega), if_neg (show ¬ (v + 6 = a + 5 ∧ n = n) by omega), c4 (v + 5) (by omega) (by omega), c4 (v + 6) (by omega) (by omega)]
    by_cases e : k = n
    · subst e
      rw [if_pos ⟨rfl, rfl⟩, if_pos ⟨rfl, rfl⟩]
      exact ⟨rfl, rfl⟩
    · rw [if_neg (fun q => e q.2), if_neg (fun q => e q.2), gr_, if_neg (fun q => e q.2)]
      exact c5 k (show k < n by have : k < n + 1 := hk; omega)
theorem cp_pk {a v : Nat} {h h1 : XH} {S : Nat → Nat → Prop} {R : Nat → Prop} (d : a + 34 ≤ v ∨ v + 34 ≤ a) (c : CR a v h h1 S R) (j : Nat) (hj : j + 2 < 34) (hb : x_isb (h.1 (v + j) 3) = true) :
    ∃ h2, f_X2_copyFrom (a + j) h1 (v + j) = some h2 ∧ CR a v h h2 (fun j' k' => S j' k' ∨ (j' = j ∧ k' < 4) ∨ (j' = j + 1 ∧ k' < 8) ∨ (j' = j + 2 ∧ k' < 52)) R := by
  have c1 := c.i d j 0 (by omega)
  have c2 := c1.i d j 1 (by omega)
  have c3 := c2.i d j 2 (by omega)
  have c5 := c3.i d j 3 (by omega)
  have d0 := c5.i d (j + 1) 0 (by omega)
  have d1 := d0.i d (j + 1) 1 (by omega)
  have d2 := d1.i d (j + 1) 2 (by omega)
  have d3 := d2.i d (j + 1) 3 (by omega)
  have d4 := d3.i d (j + 1) 4 (by omega)
  have d5 := d4.i d (j + 1) 5 (by omega)
  have d6 := d5.i d (j + 1) 6 (by omega)
  have d7 := d6.i d (j + 1) 7 (by omega)
  have e := d7.p d (j + 2) 52 (by omega)
  have b3 := c3.1 (v + j) (by omega)
  refine ⟨_, ?_, e.m (fun j' k' hs => ?_)⟩
  · unfold f_X2_copyFrom
    rw [xl_, xl_, xl_]
    rw [b3]
    rw [if_pos hb]
    rw [xl_, xl_, if_pos (by decide), xl_]
    rw [← b3]
    rfl
  · rcases hs with s | s | s | s
    · simp only [s, true_or]
    · obtain ⟨rfl, s⟩ := s
      rcases (show k' = 0 ∨ k' = 1 ∨ k' = 2 ∨ k' = 3 by omega) with q | q | q | q <;> subst q <;> simp
    · obtain ⟨rfl, s⟩ := s
      rcases (show k' = 0 ∨ k' = 1 ∨ k' = 2 ∨ k' = 3 ∨ k' = 4 ∨ k' = 5 ∨ k' = 6 ∨ k' = 7 by omega) with q | q | q | q | q | q | q | q <;> subst q <;> simp
    · exact Or.inr s
/-- all that CSt reads -/
def AS (j k : Nat) : Prop := (j = 1 ∧ k < 156) ∨ (j = 0 ∧ (k = 1 ∨ k = 4 ∨ k = 6 ∨ k = 7 ∨ k = 8 ∨ k = 10 ∨ k = 12 ∨ k = 15)) ∨ (j = 2 ∧ k < 6) ∨ (j = 3 ∧ k < 120) ∨ (j = 7 ∧ k < 6) ∨ (j = 8 ∧ k < 6) ∨ (j = 9 ∧ k < 20) ∨ (10 ≤ j ∧ j < 34 ∧ (((j - 10) % 3 = 0 ∧ k < 4) ∨ ((j - 10) % 3 = 1 ∧ k < 8) ∨ ((j - 10) % 3 = 2 ∧ k < 52)))
def PS (n j k : Nat) : Prop := 10 ≤ j ∧ j < 10 + 3 * n ∧ (((j - 10) % 3 = 0 ∧ k < 4) ∨ ((j - 10) % 3 = 1 ∧ k < 8) ∨ ((j - 10) % 3 = 2 ∧ k < 52))
theorem cp_133 {a v : Nat} {h h1 : XH} {S : Nat → Nat → Prop} (d : a + 34 ≤ v ∨ v + 34 ≤ a) (c : CR a v h h1 S (fun k => k < 0)) : ∃ h2, f_X7_copyFrom_133 a x_FU h1 v (jI 0) = some h2 ∧ CR a v h h2 (fun j k => S j k ∨ (j = 0 ∧ (k = 12 ∨ k = 15)) ∨ (j = 7 ∧ k < 6) ∨ (j = 8 ∧ k < 6) ∨ (j = 9 ∧ k < 20)) (fun k => k < 3) := by
  refine x_up0 (P := fun m n => ∀ h1 : XH, CR a v h h1 S (fun k => k < n) → ∃ h2, f_X7_copyFrom_133 a m h1 v (jI (n : Int)) = some h2 ∧ CR a v h h2 (fun j k => S j k ∨ (j = 0 ∧ (k = 12 ∨ k = 15)) ∨ (j = 7 ∧ k < 6) ∨ (j = 8 ∧ k < 6) ∨ (j = 9 ∧ k < 20)) (fun k => k < 3)) 3 (by omega) (fun m h1 c => ?_) (fun m n hn ih h1 c => ?_) h1 c
  · have c1 := c.i d 0 12 (by omega)
    have c2 := c1.p d 7 6 (by omega)
    have c3 := c2.p d 8 6 (by omega)
    have c4 := c3.i d 0 15 (by omega)
    have c5 := c4.p d 9 20 (by omega)
    refine ⟨_, ?_, c5.m (fun j k hs => ?_)⟩
    · rw [f_X7_copyFrom_133, if_pos (by decide), xl_, if_pos (by decide), xl_, if_pos (by decide), xl_, xl_, if_pos (by decide), xl_]
      rfl
    · rcases hs with s | ⟨s, q | q⟩ | s | s | s
      · simp only [s, true_or]
      · subst s q; simp
      · subst s q; simp
      · simp only [s, true_or, or_true, and_self]
      · simp only [s, true_or, or_true, and_self]
      · simp only [s, true_or, or_true, and_self]
  · have c1 := c.r d
    obtain ⟨h2, k1, k2⟩ := ih _ c1
    refine ⟨h2, ?_, k2⟩
    rw [f_X7_copyFrom_133, if_neg (show ¬ (3 : Int32) ≤ jI (n : Int) from fun q => absurd ((jI_le (a := 3) (by omega) (by omega) (by omega) (by omega)).mp q) (by omega)), if_pos (jI_b (by omega) (by omega) (by omega)), if_pos (jI_b (by omega) (by omega) (by omega)), xl_, if_pos (jI_b (by omega) (by omega) (by omega)), if_pos (jI_b (by omega) (by omega) (by omega)), xl_, nat_ (by omega), jI_s]
    exact k1
theorem cp_72 {a v : Nat} {h h1 : XH} {S : Nat → Nat → Prop} (d : a + 34 ≤ v ∨ v + 34 ≤ a) (hb : BB_ h v) (c : CR a v h h1 S (fun k => k < 0)) : ∃ h2, f_X7_copyFrom_72 a x_FU h1 v (jI 0) = some h2 ∧ CR a v h h2 (fun j k => S j k ∨ PS 8 j k ∨ (j = 0 ∧ (k = 6 ∨ k = 7 ∨ k = 8 ∨ k = 10 ∨ k = 12 ∨ k = 15)) ∨ (j = 7 ∧ k < 6) ∨ (j = 8 ∧ k < 6) ∨ (j = 9 ∧ k < 20)) (fun k => k < 3) := by
  refine x_up0 (P := fun m n => ∀ h1 : XH, CR a v h h1 (fun j k => S j k ∨ PS n j k) (fun k => k < 0) → ∃ h2, f_X7_copyFrom_72 a m h1 v (jI (n : Int)) = some h2 ∧ CR a v h h2 (fun j k => S j k ∨ PS 8 j k ∨ (j = 0 ∧ (k = 6 ∨ k = 7 ∨ k = 8 ∨ k = 10 ∨ k = 12 ∨ k = 15)) ∨ (j = 7 ∧ k < 6) ∨ (j = 8 ∧ k < 6) ∨ (j = 9 ∧ k < 20)) (fun k => k < 3)) 8 (by omega) (fun m h1 c => ?_) (fun m n hn ih h1 c => ?_) h1 (c.m (fun j k hs => hs.elim id (fun q => by unfold PS at q; omega)))
  · have c1 := c.i d 0 6 (by omega)
    have c2 := c1.i d 0 7 (by omega)
    have c3 := c2.i d 0 8 (by omega)
    have c4 := c3.i d 0 10 (by omega)
    obtain ⟨h2, k1, k2⟩ := cp_133 d c4
    refine ⟨h2, ?_, k2.m (fun j k hs => ?_)⟩
    · rw [f_X7_copyFrom_72, if_pos (by decide), xl_, xl_, xl_, xl_]
      exact k1
    · rcases hs with s | s | ⟨s, q | q | q | q | q | q⟩ | s | s | s
      · simp only [s, true_or]
      · simp only [s, true_or, or_true]
      · subst s q; simp
      · subst s q; simp
      · subst s q; simp
      · subst s q; simp
      · subst s q; simp
      · subst s q; simp
      · simp only [s, true_or, or_true, and_self]
      · simp only [s, true_or, or_true, and_self]
      · simp only [s, true_or, or_true, and_self]
  · have bn := hb n (by omega)
    rw [show v + 10 + 3 * n = v + (10 + 3 * n) by omega] at bn
    obtain ⟨h2, k1, k2⟩ := cp_pk d c (10 + 3 * n) (by omega) bn
    obtain ⟨h3, q1, q2⟩ := ih h2 (k2.m (fun j k hs => by
      unfold PS at hs ⊢
      rcases hs with s | ⟨s1, s2, s⟩
      · exact Or.inl (Or.inl s)
      · by_cases e : j < 10 + 3 * n
        · exact Or.inl (Or.inr ⟨s1, e, s⟩)
        · exact Or.inr (by omega)))
    refine ⟨h3, ?_, q2⟩
    rw [f_X7_copyFrom_72, if_neg (show ¬ (8 : Int32) ≤ jI (n : Int) from fun q => absurd ((jI_le (a := 8) (by omega) (by omega) (by omega) (by omega)).mp q) (by omega)), if_pos (jI_b (by omega) (by omega) (by omega)), if_pos (jI_b (by omega) (by omega) (by omega)), nat_ (by omega), show a + 4 + 6 + 3 * n = a + (10 + 3 * n) by omega, show v + 4 + 6 + 3 * n = v + (10 + 3 * n) by omega, k1, Option.bind_some, jI_s]
    exact q1
theorem cp_all {a v : Nat} {h : XH} (d : a + 34 ≤ v ∨ v + 34 ≤ a) (hb : BB_ h v) : ∃ h2, f_X7_copyFrom a h v = some h2 ∧ CR a v h h2 AS (fun k => k < 3) := by
  have c0 : CR a v h h (fun _ _ => False) (fun k => k < 0) := ⟨fun _ _ => rfl, fun _ _ _ q => q.elim, rfl, fun _ _ _ => rfl, fun k q => absurd q (by omega)⟩
  have c1 := c0.p d 1 156 (by omega)
  have c2 := c1.i d 0 1 (by omega)
  have c3 := c2.p d 2 6 (by omega)
  have c4 := c3.p d 3 120 (by omega)
  have c5 := c4.i d 0 4 (by omega)
  obtain ⟨h2, k1, k2⟩ := cp_72 d hb c5
  refine ⟨h2, ?_, k2.m (fun j k hs => ?_)⟩
  · unfold f_X7_copyFrom
    rw [if_pos (by decide), xl_, xl_, if_pos (by decide), xl_, if_pos (by decide), xl_, xl_]
    exact k1
  · unfold AS at hs
    unfold PS
    rcases hs with s | ⟨s, q | q | q | q | q | q | q | q⟩ | s | s | s | s | s | s
    · simp only [s, true_or, or_true, and_self]
    · subst s q; simp
    · subst s q; simp
    · subst s q; simp
    · subst s q; simp
    · subst s q; simp
    · subst s q; simp
    · subst s q; simp
    · subst s q; simp
    · simp only [s, true_or, or_true, and_self]
    · simp only [s, true_or, or_true, and_self]
    · simp only [s, true_or, or_true, and_self]
    · simp only [s, true_or, or_true, and_self]
    · simp only [s, true_or, or_true, and_self]
    · exact Or.inr (Or.inl ⟨s.1, by omega, s.2.2⟩)
/-- the copy is a state of the same world -/
theorem CR.st {gh x a v : Nat} {K : XK} {h h' : XH} {w w' : Nat → Int} (c : CR a v h h' AS (fun k => k < 3)) (s : CSt x K h v w) (W : WI gh w) (e : ∀ k, k < 6076 → w' k = w k) (far : ∀ r, x + 77 ≤ r → K r = (11, 0) → ∀ q, r ≤ q → q ≤ r + 4 → q < a ∨ a + 34 ≤ q) : CSt x K h' a w' := by
  have g : ∀ j k, j < 34 → AS j k → h'.1 (a + j) k = h.1 (v + j) k := c.2.1
  have g0 : ∀ k, (k = 1 ∨ k = 4 ∨ k = 6 ∨ k = 7 ∨ k = 8 ∨ k = 10 ∨ k = 12 ∨ k = 15) → h'.1 a k = h.1 v k := fun k hk => g 0 k (by omega) (Or.inr (Or.inl ⟨rfl, hk⟩))
  obtain ⟨s1, s2, s3, s4, s5, s6, s7, s8, s9, s10⟩ := s
  obtain ⟨iC, iD, iH, iP, iU, iM, iW, iN, iT⟩ := id W
  obtain ⟨u1, u2, u3, u4, u5, u6, u7, u8, u9, u10, u11, u12, u13, u14, u15, u16⟩ := id iC
  refine ⟨?_, fun k hk => ?_, fun j hj => ?_, fun p hp => ?_, fun k hk => ?_, fun k hk => ?_, fun k hk => ?_, fun t ht => ?_, fun t ht => ?_, fun p hp => ?_⟩
  · rw [g0 1 (by omega), g0 4 (by omega), g0 6 (by omega), g0 7 (by omega), g0 8 (by omega), g0 10 (by omega), g0 12 (by omega), g0 15 (by omega), e 0 (by omega), e 1 (by omega), e 2 (by omega), e 3 (by omega), e 4 (by omega), e 5 (by omega), e 6 (by omega), e 7 (by omega)]
    exact s1
  · rw [g 1 k (by omega) (Or.inl ⟨rfl, hk⟩), e _ (by omega)]
    exact s2 k hk
  · rw [e 0 (by omega)] at hj
    have hd := (iH j hj).2.1
    rw [e (164 + 21 * j) (by omega)]
    refine ⟨?_, fun q hq => ?_⟩
    · rw [g 2 j (by omega) (Or.inr (Or.inr (Or.inl ⟨rfl, by omega⟩)))]
      exact (s3 j hj).1
    · rw [g 3 (20 * j + q) (by omega) (Or.inr (Or.inr (Or.inr (Or.inl ⟨rfl, by omega⟩)))), e _ (by omega)]
      exact (s3 j hj).2 q hq
  · rw [e 1 (by omega)] at hp
    have hP := iP p hp
    have pl := hP.pl (fun j hj => (iH j hj).2.1)
    have g10 : ∀ k, k < 4 → h'.1 (a + 10 + 3 * p) k = h.1 (v + 10 + 3 * p) k := fun k hk => by
      rw [show a + 10 + 3 * p = a + (10 + 3 * p) by omega, show v + 10 + 3 * p = v + (10 + 3 * p) by omega]
      exact g _ k (by omega) (by unfold AS; omega)
    have g11 : ∀ k, k < 8 → h'.1 (a + 10 + 3 * p + 1) k = h.1 (v + 10 + 3 * p + 1) k := fun k hk => by
      rw [show a + 10 + 3 * p + 1 = a + (11 + 3 * p) by omega, show v + 10 + 3 * p + 1 = v + (11 + 3 * p) by omega]
      exact g _ k (by omega) (by unfold AS; omega)
    have g12 : ∀ k, k < 52 → h'.1 (a + 10 + 3 * p + 2) k = h.1 (v + 10 + 3 * p + 2) k := fun k hk => by
      rw [show a + 10 + 3 * p + 2 = a + (12 + 3 * p) by omega, show v + 10 + 3 * p + 2 = v + (12 + 3 * p) by omega]
      exact g _ k (by omega) (by unfold AS; omega)
    obtain ⟨c1, c2, c3, c4, c5, c6⟩ := s4 p hp
    have ek : ∀ k, 290 + 81 * p ≤ k → k < 371 + 81 * p → w' k = w k := fun k h1 h2 => e k (by omega)
    unfold CPk
    rw [g10 0 (by omega), g10 1 (by omega), g10 2 (by omega), g10 3 (by omega), g11 0 (by omega), g11 1 (by omega), g11 2 (by omega), g11 3 (by omega), g11 4 (by omega), g11 5 (by omega), g11 6 (by omega), g11 7 (by omega), ek (290 + 81 * p) (by omega) (by omega), ek (290 + 81 * p + 1) (by omega) (by omega), ek (290 + 81 * p + 2) (by omega) (by omega), ek (290 + 81 * p + 3) (by omega) (by omega), ek (290 + 81 * p + 4) (by omega) (by omega), ek (290 + 81 * p + 5) (by omega) (by omega), ek (290 + 81 * p + 6) (by omega) (by omega), ek (290 + 81 * p + 7) (by omega) (by omega), ek (290 + 81 * p + 8) (by omega) (by omega)]
    refine ⟨c1, c2, c3, c4, fun i hi => ?_, fun hq => ?_⟩
    · rw [g12 i hi, ek _ (by omega) (by omega)]
      exact c5 i hi
    · obtain ⟨d1, d2, d3, d4, d5, d6, t, q, d7, d8, d9, d10, d11, d12, d13⟩ := c6 hq
      refine ⟨d1, d2, d3, d4, d5, d6, t, q, d7, d8, d9, d10, d11, d12, fun k hk => ?_⟩
      rw [ek _ (by omega) (by omega)]
      exact d13 k hk
  · rw [e 4 (by omega)] at hk
    rw [g 7 k (by omega) (by unfold AS; omega), e _ (by omega)]
    exact s5 k hk
  · rw [g 8 k (by omega) (by unfold AS; omega), e _ (by omega)]
    exact s6 k hk
  · rw [e 5 (by omega)] at hk
    rw [g 9 k (by omega) (by unfold AS; omega), e _ (by omega)]
    exact s7 k hk
  · rw [e 2 (by omega)] at ht
    obtain ⟨r, h1, h2⟩ := s8 t ht
    have hx := iT.1 t ht
    refine ⟨r, by rw [(c.2.2.2.2 t (by omega)).1]; exact h1, h2.c ⟨hx.1, hx.2.1⟩ (fun _ _ _ => rfl) (fun q q1 q2 => c.1 q (far r h2.1 h2.2.1 q q1 q2)) (fun k q1 q2 => e k (by omega))⟩
  · rw [e 3 (by omega)] at ht
    obtain ⟨r, h1, h2⟩ := s9 t ht
    have hx := iT.2 t ht
    refine ⟨r, by rw [(c.2.2.2.2 t (by omega)).2]; exact h1, h2.c ⟨hx.1, hx.2.1⟩ (fun _ _ _ => rfl) (fun q q1 q2 => c.1 q (far r h2.1 h2.2.1 q q1 q2)) (fun k q1 q2 => e k (by omega))⟩
  · rw [show a + 10 + 3 * p = a + (10 + 3 * p) by omega, g _ 3 (by omega) (by unfold AS; omega), show v + (10 + 3 * p) = v + 10 + 3 * p by omega]
    exact s10 p hp
