/-! ===== changes of the table: the sums ===== -/
def hd_ (w : Nat → Int) (t p : Nat) (i d : Int) : Int := cl_ (tl_ w (970 + 851 * t) (fg_ w p (w (290 + 81 * p + 4)) (w (290 + 81 * p + 5)) (w (290 + 81 * p + 6)) (w (290 + 81 * p + 7)) (w (290 + 81 * p + 8)) (w (290 + 81 * p + 3)) (ag_ w p (w 6) (i / w (290 + 81 * p + 6))) (i / w (290 + 81 * p + 6)) (i % w (290 + 81 * p + 6)) d))
theorem hd_n {w : Nat → Int} {t p : Nat} {i : Int} : hn_ w t p (w 6) i = hd_ w t p i (du_ w (cd_ w p i) (i % w (290 + 81 * p + 6))) := rfl
def GF_ (w : Nat → Int) (t : Nat) (c : Int) (f : Int → Int) : Int := sm_ (w 1).toNat (fun p => if 0 < w (290 + 81 * p + 3) then sm_ (w (290 + 81 * p + 2)).toNat (fun i => if cd_ w p i = c then hd_ w t p i (f ((i : Int) % w (290 + 81 * p + 6))) else 0) else 0)
def SP_ (w : Nat → Int) (t p : Nat) (c q d : Int) (n : Nat) : Int := sm_ n (fun i => if cd_ w p i = c ∧ (i : Int) % w (290 + 81 * p + 6) = q then hd_ w t p i d else 0)
def SF_ (w : Nat → Int) (t : Nat) (c q d : Int) (n : Nat) : Int := sm_ n (fun p => if 0 < w (290 + 81 * p + 3) then SP_ w t p c q d (w (290 + 81 * p + 2)).toNat else 0)
theorem SG_ {w : Nat → Int} {t : Nat} {c : Int} {f : Int → Int} (hw : ∀ p : Nat, (p : Int) < w 1 → 1 ≤ w (290 + 81 * p + 6) ∧ w (290 + 81 * p + 6) ≤ 3) : SF_ w t c 0 (f 0) (w 1).toNat + SF_ w t c 1 (f 1) (w 1).toNat + SF_ w t c 2 (f 2) (w 1).toNat = GF_ w t c f := by
  unfold SF_ GF_
  rw [← sm_p, ← sm_p]
  refine sm_c fun p hp => ?_
  have hb := hw p (by omega)
  by_cases cq : 0 < w (290 + 81 * p + 3)
  · rw [if_pos cq, if_pos cq, if_pos cq, if_pos cq]
    unfold SP_
    rw [← sm_p, ← sm_p]
    refine sm_c fun i hi => ?_
    have m0 : 0 ≤ (i : Int) % w (290 + 81 * p + 6) := Int.emod_nonneg _ (by omega)
    have m1 : (i : Int) % w (290 + 81 * p + 6) < w (290 + 81 * p + 6) := Int.emod_lt_of_pos _ (by omega)
    generalize (i : Int) % w (290 + 81 * p + 6) = q at m0 m1
    by_cases e : cd_ w p i = c
    · rw [if_pos e]
      rcases (show q = 0 ∨ q = 1 ∨ q = 2 by omega) with z | z | z <;> subst z
      · rw [if_pos ⟨e, rfl⟩, if_neg (fun q => absurd q.2 (by decide)), if_neg (fun q => absurd q.2 (by decide))]; omega
      · rw [if_neg (fun q => absurd q.2 (by decide)), if_pos ⟨e, rfl⟩, if_neg (fun q => absurd q.2 (by decide))]; omega
      · rw [if_neg (fun q => absurd q.2 (by decide)), if_neg (fun q => absurd q.2 (by decide)), if_pos ⟨e, rfl⟩]; omega
    · rw [if_neg e, if_neg (fun q => e q.1), if_neg (fun q => e q.1), if_neg (fun q => e q.1)]; rfl
  · rw [if_neg cq, if_neg cq, if_neg cq, if_neg cq]; rfl
theorem hd_b {w : Nat → Int} {t p : Nat} {i d : Int} : 0 ≤ hd_ w t p i d ∧ hd_ w t p i d ≤ 100 := cl_b _
theorem SP_b {w : Nat → Int} {t p n : Nat} {c q d : Int} : 0 ≤ SP_ w t p c q d n ∧ SP_ w t p c q d n ≤ n * 100 := by
  have h := sm_b (n := n) (f := fun i => if cd_ w p i = c ∧ (i : Int) % w (290 + 81 * p + 6) = q then hd_ w t p i d else 0) (lo := 0) (hi := 100) (fun i _ => by
    show 0 ≤ (if cd_ w p i = c ∧ (i : Int) % w (290 + 81 * p + 6) = q then hd_ w t p i d else 0) ∧ (if cd_ w p i = c ∧ (i : Int) % w (290 + 81 * p + 6) = q then hd_ w t p i d else 0) ≤ 100
    have := hd_b (w := w) (t := t) (p := p) (i := i) (d := d)
    split <;> omega)
  unfold SP_
  omega
theorem SF_b {w : Nat → Int} {t n : Nat} {c q d : Int} (h : ∀ p : Nat, p < n → w (290 + 81 * p + 2) ≤ 52) : 0 ≤ SF_ w t c q d n ∧ SF_ w t c q d n ≤ n * 5200 := by
  have h := sm_b (n := n) (f := fun p => if 0 < w (290 + 81 * p + 3) then SP_ w t p c q d (w (290 + 81 * p + 2)).toNat else 0) (lo := 0) (hi := 5200) (fun p hp => by
    show 0 ≤ (if 0 < w (290 + 81 * p + 3) then SP_ w t p c q d (w (290 + 81 * p + 2)).toNat else 0) ∧ (if 0 < w (290 + 81 * p + 3) then SP_ w t p c q d (w (290 + 81 * p + 2)).toNat else 0) ≤ 5200
    have := SP_b (w := w) (t := t) (p := p) (c := c) (q := q) (d := d) (n := (w (290 + 81 * p + 2)).toNat)
    have := h p hp
    split <;> omega)
  unfold SF_
  omega
/-! the sums read no dullness of the world -/
theorem er_9 {w w' : Nat → Int} (e : ∀ k, 164 ≤ k → w' k = w k) {b : Nat} (hb : 164 ≤ b) {F : Int → Int32} : ∀ n i V, er_ w' b F n i V = er_ w b F n i V := by
  intro n
  induction n with
  | zero => intros; rfl
  | succ n ih =>
    intro i V
    unfold er_
    rw [e _ (by omega), e _ (by omega), ih]
theorem tl_9 {w w' : Nat → Int} (e : ∀ k, 164 ≤ k → w' k = w k) {b : Nat} (hb : 164 ≤ b) {g : Int → Int} : tl_ w' b g = tl_ w b g := by
  unfold tl_
  rw [e b hb]
  refine sm_c fun i hi => ?_
  unfold vl_ ml_
  rw [e (b + 1 + 5 * i) (by omega), e (b + 2 + 5 * i) (by omega), e (b + 3 + 5 * i) (by omega), e (b + 4 + 5 * i) (by omega), e (b + 5 + 5 * i) (by omega), er_9 e hb]
theorem pa_9 {w w' : Nat → Int} (e : ∀ k, 164 ≤ k → w' k = w k) {q : Nat} {hs dr : Int} : pa_ w' q hs dr = pa_ w q hs dr := by
  unfold pa_ pc_
  rw [e (290 + 81 * q + 2) (by omega), e (290 + 81 * q + 3) (by omega), e (290 + 81 * q + 4) (by omega), e (290 + 81 * q + 5) (by omega), e (290 + 81 * q + 6) (by omega)]
theorem fg_9 {w w' : Nat → Int} (e : ∀ k, 164 ≤ k → w' k = w k) (e1 : w' 1 = w 1) {p : Nat} {hs dr per sec gone ah age pl ro du : Int} : fg_ w' p hs dr per sec gone ah age pl ro du = fg_ w p hs dr per sec gone ah age pl ro du := by
  have eo : ∀ dr, old_ w' p hs dr ah = old_ w p hs dr ah := fun dr => by
    unfold old_
    rw [e1]
    refine sm_c fun q hq => ?_
    rw [pa_9 e, e (290 + 81 * q + 3) (by omega)]
  have el : ∀ mn, like_ w' hs dr mn pl = like_ w hs dr mn pl := fun mn => by
    unfold like_
    refine sm_c fun k hk => ?_
    unfold lk_
    rw [e _ (by omega), e _ (by omega)]
  funext s
  unfold fg_
  rw [eo, e (290 + 81 * p + 2) (by omega), el]
theorem cd_9 {w w' : Nat → Int} (e : ∀ k, 164 ≤ k → w' k = w k) {p : Nat} {i : Int} : cd_ w' p i = cd_ w p i := by
  unfold cd_
  rw [e _ (by omega), e _ (by omega)]
theorem hd_9 {w w' : Nat → Int} (e : ∀ k, 164 ≤ k → w' k = w k) (e1 : w' 1 = w 1) (e6 : w' 6 = w 6) {t p : Nat} {i d : Int} : hd_ w' t p i d = hd_ w t p i d := by
  unfold hd_ ag_
  rw [e6, e (290 + 81 * p + 3) (by omega), e (290 + 81 * p + 4) (by omega), e (290 + 81 * p + 5) (by omega), e (290 + 81 * p + 6) (by omega), e (290 + 81 * p + 7) (by omega), e (290 + 81 * p + 8) (by omega), e _ (by omega), fg_9 e e1, tl_9 e (by omega)]
/-- the world with the rows of two cards exchanged -/
def ex_ (w : Nat → Int) (a b : Nat) : Nat → Int := fun k => if 8 + 3 * a ≤ k ∧ k < 11 + 3 * a then w (k - 3 * a + 3 * b) else if 8 + 3 * b ≤ k ∧ k < 11 + 3 * b then w (k - 3 * b + 3 * a) else w k
theorem exo_ {w : Nat → Int} {a b k : Nat} (ha : a < 52) (hb : b < 52) (hk : k < 8 ∨ 164 ≤ k) : ex_ w a b k = w k := by
  unfold ex_
  rw [if_neg (by omega), if_neg (by omega)]
theorem ex_a {w : Nat → Int} {a b r : Nat} (hr : r < 3) : ex_ w a b (8 + 3 * a + r) = w (8 + 3 * b + r) := by
  unfold ex_
  rw [if_pos (by omega), show 8 + 3 * a + r - 3 * a + 3 * b = 8 + 3 * b + r by omega]
theorem ex_b {w : Nat → Int} {a b r : Nat} (hr : r < 3) : ex_ w a b (8 + 3 * b + r) = w (8 + 3 * a + r) := by
  unfold ex_
  by_cases c : a = b
  · subst c
    rw [if_pos (by omega), show 8 + 3 * a + r - 3 * a + 3 * a = 8 + 3 * a + r by omega]
  · rw [if_neg (by omega), if_pos (by omega), show 8 + 3 * b + r - 3 * b + 3 * a = 8 + 3 * a + r by omega]
theorem ex_ex {w : Nat → Int} {a b : Nat} (c : a ≠ b) : ex_ (ex_ w a b) a b = w := by
  funext k
  by_cases h1 : 8 + 3 * a ≤ k ∧ k < 11 + 3 * a
  · obtain ⟨r, hr, rfl⟩ : ∃ r, r < 3 ∧ k = 8 + 3 * a + r := ⟨k - 8 - 3 * a, by omega, by omega⟩
    rw [ex_a hr, ex_b hr]
  · by_cases h2 : 8 + 3 * b ≤ k ∧ k < 11 + 3 * b
    · obtain ⟨r, hr, rfl⟩ : ∃ r, r < 3 ∧ k = 8 + 3 * b + r := ⟨k - 8 - 3 * b, by omega, by omega⟩
      rw [ex_b hr, ex_a hr]
    · have o : ∀ u : Nat → Int, ex_ u a b k = u k := fun u => by
        unfold ex_
        rw [if_neg h1, if_neg h2]
      rw [o, o]
def HB_ (w : Nat → Int) (t : Nat) (a b : Int) : Int := sm_ (w 1).toNat (fun p => if 0 < w (290 + 81 * p + 3) then sm_ (w (290 + 81 * p + 2)).toNat (fun i => if cd_ w p i = a ∨ cd_ w p i = b then hn_ w t p (w 6) i else 0) else 0)
theorem HB_b {w : Nat → Int} {t : Nat} {a b : Int} (h8 : w 1 ≤ 8) (h : ∀ p : Nat, (p : Int) < w 1 → w (290 + 81 * p + 2) ≤ 52) : 0 ≤ HB_ w t a b ∧ HB_ w t a b ≤ 41600 := by
  have h := sm_b (n := (w 1).toNat) (f := fun p => if 0 < w (290 + 81 * p + 3) then sm_ (w (290 + 81 * p + 2)).toNat (fun i => if cd_ w p i = a ∨ cd_ w p i = b then hn_ w t p (w 6) i else 0) else 0) (lo := 0) (hi := 5200) (fun p hp => by
    show 0 ≤ (if 0 < w (290 + 81 * p + 3) then sm_ (w (290 + 81 * p + 2)).toNat (fun i => if cd_ w p i = a ∨ cd_ w p i = b then hn_ w t p (w 6) i else 0) else 0) ∧ (if 0 < w (290 + 81 * p + 3) then sm_ (w (290 + 81 * p + 2)).toNat (fun i => if cd_ w p i = a ∨ cd_ w p i = b then hn_ w t p (w 6) i else 0) else 0) ≤ 5200
    have hh := sm_b (n := (w (290 + 81 * p + 2)).toNat) (f := fun i => if cd_ w p i = a ∨ cd_ w p i = b then hn_ w t p (w 6) i else 0) (lo := 0) (hi := 100) (fun i _ => by
      show 0 ≤ (if cd_ w p i = a ∨ cd_ w p i = b then hn_ w t p (w 6) i else 0) ∧ (if cd_ w p i = a ∨ cd_ w p i = b then hn_ w t p (w 6) i else 0) ≤ 100
      have := hn_b (w := w) (t := t) (p := p) (ck := w 6) (i := i)
      split <;> omega)
    have := h p (by omega)
    split <;> omega)
  unfold HB_
  omega
theorem HB_G {w w' : Nat → Int} {t : Nat} {a b : Int} {fa fb : Int → Int} (c : a ≠ b) (hw : ∀ p : Nat, (p : Int) < w 1 → 1 ≤ w (290 + 81 * p + 6) ∧ w (290 + 81 * p + 6) ≤ 3) (e : ∀ k, 164 ≤ k → w' k = w k) (e1 : w' 1 = w 1) (e6 : w' 6 = w 6) (ga : ∀ r, 0 ≤ r → r < 3 → du_ w' a r = fa r) (gb : ∀ r, 0 ≤ r → r < 3 → du_ w' b r = fb r) : HB_ w' t a b = GF_ w t a fa + GF_ w t b fb := by
  unfold HB_ GF_
  rw [e1, ← sm_p]
  refine sm_c fun p hp => ?_
  have hb := hw p (by omega)
  rw [e (290 + 81 * p + 2) (by omega), e (290 + 81 * p + 3) (by omega)]
  by_cases cq : 0 < w (290 + 81 * p + 3)
  · rw [if_pos cq, if_pos cq, if_pos cq, ← sm_p]
    refine sm_c fun i hi => ?_
    have m0 : 0 ≤ (i : Int) % w (290 + 81 * p + 6) := Int.emod_nonneg _ (by omega)
    have m1 : (i : Int) % w (290 + 81 * p + 6) < w (290 + 81 * p + 6) := Int.emod_lt_of_pos _ (by omega)
    rw [hd_n, hd_9 e e1 e6, cd_9 e, e (290 + 81 * p + 6) (by omega)]
    by_cases ea : cd_ w p i = a
    · rw [if_pos (Or.inl ea), if_pos ea, if_neg (fun q => c (ea.symm.trans q)), ea, ga _ m0 (by omega), Int.add_zero]
    · by_cases eb : cd_ w p i = b
      · rw [if_pos (Or.inr eb), if_neg ea, if_pos eb, eb, gb _ m0 (by omega), Int.zero_add]
      · rw [if_neg (fun q => q.elim ea eb), if_neg ea, if_neg eb]; rfl
  · rw [if_neg cq, if_neg cq, if_neg cq]; rfl
/-- what an exchange gains -/
def gn_ (w : Nat → Int) (t a b : Nat) : Int := GF_ w t a (du_ w b) - GF_ w t a (du_ w a) + (GF_ w t b (du_ w a) - GF_ w t b (du_ w b))
theorem gn_e {w : Nat → Int} {t a b : Nat} (ha : a < 52) (hb : b < 52) (c : a ≠ b) (hw : ∀ p : Nat, (p : Int) < w 1 → 1 ≤ w (290 + 81 * p + 6) ∧ w (290 + 81 * p + 6) ≤ 3) : HB_ (ex_ w a b) t a b - HB_ w t a b = gn_ w t a b := by
  have c' : (a : Int) ≠ (b : Int) := by omega
  have g1 := HB_G (w := w) (w' := w) (t := t) (fa := du_ w a) (fb := du_ w b) c' hw (fun _ _ => rfl) rfl rfl (fun _ _ _ => rfl) (fun _ _ _ => rfl)
  have g2 := HB_G (w := w) (w' := ex_ w a b) (t := t) (a := (a : Int)) (b := (b : Int)) (fa := du_ w b) (fb := du_ w a) c' hw (fun k hk => exo_ ha hb (Or.inr hk)) (exo_ ha hb (by omega)) (exo_ ha hb (by omega)) (fun r r0 r1 => by
    unfold du_
    rw [Int.toNat_natCast, Int.toNat_natCast, ex_a (by omega)]) (fun r r0 r1 => by
    unfold du_
    rw [Int.toNat_natCast, Int.toNat_natCast, ex_b (by omega)])
  unfold gn_
  rw [g1, g2]
  omega
/-! the best pair -/
def fi_ (g : Nat → Nat → Int) (a : Nat) (S : Int × Int) : Nat → Int × Int
  | 0 => S
  | k + 1 => if (fi_ g a S k).1 < g a (a + 1 + k) then (g a (a + 1 + k), 52 * (a : Int) + (a + 1 + k : Nat)) else fi_ g a S k
def fo_ (g : Nat → Nat → Int) : Nat → Int × Int
  | 0 => (0, -1)
  | a + 1 => fi_ g a (fo_ g a) (51 - a)
theorem fi_b {g : Nat → Nat → Int} {a : Nat} {S : Int × Int} (hg : ∀ a b, a < 52 → b < 52 → -200000 ≤ g a b ∧ g a b ≤ 200000) (ha : a < 52) (hS : 0 ≤ S.1 ∧ S.1 ≤ 200000 ∧ -1 ≤ S.2 ∧ S.2 ≤ 2703) : ∀ k, k ≤ 51 - a → 0 ≤ (fi_ g a S k).1 ∧ (fi_ g a S k).1 ≤ 200000 ∧ -1 ≤ (fi_ g a S k).2 ∧ (fi_ g a S k).2 ≤ 2703 := by
  intro k
  induction k with
  | zero => intro _; exact hS
  | succ k ih =>
    intro hk
    have i := ih (by omega)
    have b := hg a (a + 1 + k) ha (by omega)
    unfold fi_
    split
    · refine ⟨?_, b.2, ?_, ?_⟩
      · show 0 ≤ g a (a + 1 + k)
        omega
      · show -1 ≤ 52 * (a : Int) + (a + 1 + k : Nat)
        omega
      · show 52 * (a : Int) + (a + 1 + k : Nat) ≤ 2703
        omega
    · exact i
theorem fo_b {g : Nat → Nat → Int} (hg : ∀ a b, a < 52 → b < 52 → -200000 ≤ g a b ∧ g a b ≤ 200000) : ∀ a, a ≤ 52 → 0 ≤ (fo_ g a).1 ∧ (fo_ g a).1 ≤ 200000 ∧ -1 ≤ (fo_ g a).2 ∧ (fo_ g a).2 ≤ 2703 := by
  intro a
  induction a with
  | zero => intro _; simp [fo_]
  | succ a ih =>
    intro ha
    exact fi_b hg (by omega) (ih (by omega)) _ (Nat.le_refl _)
theorem GF_b {w : Nat → Int} {t : Nat} {c : Int} {f : Int → Int} (h8 : w 1 ≤ 8) (h : ∀ p : Nat, (p : Int) < w 1 → w (290 + 81 * p + 2) ≤ 52) : 0 ≤ GF_ w t c f ∧ GF_ w t c f ≤ 41600 := by
  have h := sm_b (n := (w 1).toNat) (f := fun p => if 0 < w (290 + 81 * p + 3) then sm_ (w (290 + 81 * p + 2)).toNat (fun i => if cd_ w p i = c then hd_ w t p i (f ((i : Int) % w (290 + 81 * p + 6))) else 0) else 0) (lo := 0) (hi := 5200) (fun p hp => by
    show 0 ≤ (if 0 < w (290 + 81 * p + 3) then sm_ (w (290 + 81 * p + 2)).toNat (fun i => if cd_ w p i = c then hd_ w t p i (f ((i : Int) % w (290 + 81 * p + 6))) else 0) else 0) ∧ (if 0 < w (290 + 81 * p + 3) then sm_ (w (290 + 81 * p + 2)).toNat (fun i => if cd_ w p i = c then hd_ w t p i (f ((i : Int) % w (290 + 81 * p + 6))) else 0) else 0) ≤ 5200
    have hh := sm_b (n := (w (290 + 81 * p + 2)).toNat) (f := fun i => if cd_ w p i = c then hd_ w t p i (f ((i : Int) % w (290 + 81 * p + 6))) else 0) (lo := 0) (hi := 100) (fun i _ => by
      show 0 ≤ (if cd_ w p i = c then hd_ w t p i (f ((i : Int) % w (290 + 81 * p + 6))) else 0) ∧ (if cd_ w p i = c then hd_ w t p i (f ((i : Int) % w (290 + 81 * p + 6))) else 0) ≤ 100
      have := hd_b (w := w) (t := t) (p := p) (i := i) (d := f ((i : Int) % w (290 + 81 * p + 6)))
      split <;> omega)
    have := h p (by omega)
    split <;> omega)
  unfold GF_
  omega
theorem gn_b {w : Nat → Int} {t : Nat} (h8 : w 1 ≤ 8) (h : ∀ p : Nat, (p : Int) < w 1 → w (290 + 81 * p + 2) ≤ 52) : ∀ a b : Nat, a < 52 → b < 52 → -200000 ≤ gn_ w t a b ∧ gn_ w t a b ≤ 200000 := fun a b _ _ => by
  have g1 := GF_b (w := w) (t := t) (c := a) (f := du_ w b) h8 h
  have g2 := GF_b (w := w) (t := t) (c := a) (f := du_ w a) h8 h
  have g3 := GF_b (w := w) (t := t) (c := b) (f := du_ w a) h8 h
  have g4 := GF_b (w := w) (t := t) (c := b) (f := du_ w b) h8 h
  unfold gn_
  omega
