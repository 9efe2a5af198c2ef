/-! ===== the reference's world as numbers, and what holds of it ===== -/
def wd (x : Nat) (h : XH) (k : Nat) : Int := (h.1 (x + 65) k).toInt
def wj (x : Nat) (h : XH) (k : Nat) : Int := (h.1 (x + 66) k).toInt
theorem wd_j (x : Nat) (h : XH) (k : Nat) : h.1 (x + 65) k = jI (wd x h k) := jI_of _
theorem wj_j (x : Nat) (h : XH) (k : Nat) : h.1 (x + 66) k = jI (wj x h k) := jI_of _
/-- how many places n cards take, per to a place -/
def pl_ (n per : Int) : Int := (n + per - 1) / per
def WC (w : Nat → Int) : Prop := 0 ≤ w 0 ∧ w 0 ≤ 6 ∧ 0 ≤ w 1 ∧ w 1 ≤ 8 ∧ 0 ≤ w 2 ∧ w 2 ≤ 3 ∧ 0 ≤ w 3 ∧ w 3 ≤ 3 ∧ 0 ≤ w 4 ∧ w 4 ≤ 6 ∧ 0 ≤ w 5 ∧ w 5 ≤ 20 ∧ 0 ≤ w 6 ∧ w 6 ≤ 1000000 ∧ 0 ≤ w 7 ∧ w 7 ≤ 8
def WD (w : Nat → Int) : Prop := ∀ k : Nat, k < 156 → 0 ≤ w (8 + k) ∧ w (8 + k) ≤ 9
def WH (w : Nat → Int) : Prop := ∀ j : Nat, (j : Int) < w 0 → 1 ≤ w (164 + 21 * j) ∧ w (164 + 21 * j) ≤ 20 ∧ ∀ d : Nat, d < 20 → 0 ≤ w (165 + 21 * j + d) ∧ w (165 + 21 * j + d) ≤ 9
def WPk (w : Nat → Int) (b : Nat) : Prop := 0 ≤ w b ∧ w b < 52 ∧ 1 ≤ w (b + 1) ∧ w (b + 1) < 52 ∧ w (b + 1) % 2 = 1 ∧ w (b + 1) % 13 ≠ 0 ∧ 3 ≤ w (b + 2) ∧ w (b + 2) ≤ 52 ∧ 0 ≤ w (b + 3) ∧ w (b + 3) ≤ w 7 ∧ 1 ≤ w (b + 6) ∧ w (b + 6) ≤ 3 ∧ (∀ i : Nat, i < 52 → -1 ≤ w (b + 29 + i) ∧ w (b + 29 + i) < 52) ∧
  (0 < w (b + 3) → 0 ≤ w (b + 4) ∧ w (b + 4) < w 0 ∧ 0 ≤ w (b + 5) ∧ w (b + 5) + pl_ (w (b + 2)) (w (b + 6)) ≤ w (164 + 21 * (w (b + 4)).toNat) ∧ 1 ≤ w (b + 7) ∧ w (b + 7) ≤ 60 ∧ 0 ≤ w (b + 8) ∧ w (b + 8) ≤ w 6 ∧ ∀ k : Nat, (k : Int) < pl_ (w (b + 2)) (w (b + 6)) → 0 ≤ w (b + 9 + k) ∧ w (b + 9 + k) ≤ w 6)
def WP (w : Nat → Int) : Prop := ∀ p : Nat, (p : Int) < w 1 → WPk w (290 + 81 * p)
def WU (gh : Nat) (w : Nat → Int) : Prop := (∀ p q : Nat, (p : Int) < w 1 → (q : Int) < w 1 → 0 < w (293 + 81 * p) → w (293 + 81 * p) = w (293 + 81 * q) → p = q) ∧ w 7 = sm_ (w 1).toNat (fun p => if 0 < w (293 + 81 * p) then 1 else 0) ∧ (∀ p : Nat, (p : Int) < w 1 → ¬ 0 < w (293 + 81 * p) → w (298 + 81 * p) = 0) ∧ gh ≤ 1000 ∧ ∀ p : Nat, (p : Int) < w 1 → w (298 + 81 * p) ≤ gh
def WM (w : Nat → Int) : Prop := (∀ k : Nat, (k : Int) < w 4 → 1 ≤ w (938 + k) ∧ w (938 + k) ≤ 99999) ∧ (∀ k : Nat, (k : Int) + 1 < w 4 → w (938 + k) < w (939 + k))
def WW (w : Nat → Int) : Prop := ∀ k : Nat, (k : Int) < w 5 → 0 ≤ w (944 + k) ∧ w (944 + k) ≤ 9999
def WN (w : Nat → Int) : Prop := ∀ k : Nat, k < 6 → 0 ≤ w (964 + k) ∧ w (964 + k) ≤ 100
/-- one step of a text, by kinds: true is a truth, false a number; at most 17 wait -/
def ts_ (ru : Bool) (s n : Int) (T : List Bool) : Option (List Bool) :=
  if s = 10 then (if 0 ≤ n ∧ n < 1000 ∧ T.length < 17 then some (false :: T) else none)
  else if 0 ≤ s ∧ s < (if ru then 4 else 8) then (if T.length < 17 then some (false :: T) else none)
  else if s = 8 ∨ (s = 9 ∧ ru = false) then (if T.length < 17 then some (true :: T) else none)
  else match T with
    | [] => none
    | [a] => if s = 14 ∧ a = true then some [true] else none
    | a :: b :: T' => if s = 14 ∧ a = true then some (true :: b :: T')
      else if s = 11 ∧ a = false ∧ b = false then some (false :: T')
      else if (s = 12 ∨ s = 13) ∧ a = false ∧ b = false then some (true :: T')
      else if (s = 15 ∨ s = 16) ∧ a = true ∧ b = true then some (true :: T')
      else none
/-- n steps of the text at b, from step i on -/
def tr_ (w : Nat → Int) (b : Nat) (ru : Bool) : Nat → Nat → List Bool → Option (List Bool)
  | 0, _, T => some T
  | n + 1, i, T => Option.bind (ts_ ru (w (b + 51 + 2 * i)) (w (b + 52 + 2 * i)) T) (fun T' => tr_ w b ru n (i + 1) T')
def WLn (w : Nat → Int) (b : Nat) (ru : Bool) (i : Nat) : Prop :=
  (w (b + 1 + 5 * i) = 0 ∨ w (b + 1 + 5 * i) = 1) ∧ 0 ≤ w (b + 2 + 5 * i) ∧ w (b + 2 + 5 * i) ≤ 999 ∧ -1 ≤ w (b + 3 + 5 * i) ∧ w (b + 3 + 5 * i) < (if ru then 4 else 8) ∧ 0 ≤ w (b + 4 + 5 * i) ∧ w (b + 4 + 5 * i) ≤ w (b + 5 + 5 * i) ∧ w (b + 5 + 5 * i) ≤ 400 ∧
  (w (b + 4 + 5 * i) = w (b + 5 + 5 * i) ∨ tr_ w b ru (w (b + 5 + 5 * i) - w (b + 4 + 5 * i)).toNat (w (b + 4 + 5 * i)).toNat [] = some [true])
def WTx (w : Nat → Int) (b : Nat) (ru : Bool) : Prop := 0 ≤ w b ∧ w b ≤ 10 ∧ (∀ i : Nat, (i : Int) < w b → WLn w b ru i) ∧ (0 < w b → w (b + 4) = 0) ∧ (∀ i : Nat, (i : Int) + 1 < w b → w (b + 9 + 5 * i) = w (b + 5 + 5 * i))
def WT (w : Nat → Int) : Prop := (∀ t : Nat, (t : Int) < w 2 → WTx w (970 + 851 * t) false) ∧ (∀ t : Nat, (t : Int) < w 3 → WTx w (3523 + 851 * t) true)
def WI (gh : Nat) (w : Nat → Int) : Prop := WC w ∧ WD w ∧ WH w ∧ WP w ∧ WU gh w ∧ WM w ∧ WW w ∧ WN w ∧ WT w
/-! the same numbers, the same truths -/
theorem WC.c {w w' : Nat → Int} (h : WC w) (e : ∀ k, k < 8 → w' k = w k) : WC w' := by
  unfold WC at *
  rw [e 0 (by decide), e 1 (by decide), e 2 (by decide), e 3 (by decide), e 4 (by decide), e 5 (by decide), e 6 (by decide), e 7 (by decide)]
  exact h
theorem WD.c {w w' : Nat → Int} (h : WD w) (e : ∀ k, 8 ≤ k → k < 164 → w' k = w k) : WD w' := fun k hk => by
  rw [e (8 + k) (by omega) (by omega)]
  exact h k hk
theorem WH.c {w w' : Nat → Int} (h : WH w) (hC : WC w) (e0 : w' 0 = w 0) (e : ∀ k, 164 ≤ k → k < 290 → w' k = w k) : WH w' := fun j hj => by
  rw [e0] at hj
  have h6 : w 0 ≤ 6 := hC.2.1
  rw [e (164 + 21 * j) (by omega) (by omega)]
  obtain ⟨h1, h2, h3⟩ := h j hj
  exact ⟨h1, h2, fun d hd => by rw [e (165 + 21 * j + d) (by omega) (by omega)]; exact h3 d hd⟩
theorem pl_b {n per : Int} (h1 : 3 ≤ n) (h2 : n ≤ 52) (h3 : 1 ≤ per) (h4 : per ≤ 3) : 1 ≤ pl_ n per ∧ pl_ n per ≤ 52 := by
  unfold pl_
  rcases (show per = 1 ∨ per = 2 ∨ per = 3 by omega) with e | e | e <;> subst e <;> omega
theorem WPk.c {w w' : Nat → Int} {b : Nat} (h : WPk w b) (hb : b ≤ 857) (h0 : w 0 ≤ 6) (hd : ∀ j : Nat, (j : Int) < w 0 → w (164 + 21 * j) ≤ 20) (e0 : w' 0 = w 0) (e6 : w 6 ≤ w' 6) (e7 : w 7 ≤ w' 7) (eh : ∀ k, 164 ≤ k → k < 290 → w' k = w k) (e : ∀ k, b ≤ k → k < b + 81 → w' k = w k) : WPk w' b := by
  obtain ⟨p1, p2, p3, p4, p5, p6, p7, p8, p9, p10, p11, p12, p13, p14⟩ := h
  have hp := pl_b p7 p8 p11 p12
  unfold WPk
  rw [e b (by omega) (by omega), e (b + 1) (by omega) (by omega), e (b + 2) (by omega) (by omega), e (b + 3) (by omega) (by omega), e (b + 4) (by omega) (by omega), e (b + 5) (by omega) (by omega), e (b + 6) (by omega) (by omega), e (b + 7) (by omega) (by omega), e (b + 8) (by omega) (by omega), e0]
  refine ⟨p1, p2, p3, p4, p5, p6, p7, p8, p9, by omega, p11, p12, fun i hi => ?_, fun hq => ?_⟩
  · rw [e (b + 29 + i) (by omega) (by omega)]; exact p13 i hi
  · obtain ⟨q1, q2, q3, q4, q5, q6, q7, q8, q9⟩ := p14 hq
    rw [eh (164 + 21 * (w (b + 4)).toNat) (by omega) (by omega)]
    have h20 := hd (w (b + 4)).toNat (by omega)
    refine ⟨q1, q2, q3, q4, q5, q6, q7, by omega, fun k hk => ?_⟩
    rw [e (b + 9 + k) (by omega) (by omega)]
    obtain ⟨r1, r2⟩ := q9 k hk
    exact ⟨r1, by omega⟩
theorem WP.c {w w' : Nat → Int} (h : WP w) (hC : WC w) (hH : WH w) (e0 : w' 0 = w 0) (e1 : w' 1 = w 1) (e6 : w 6 ≤ w' 6) (e7 : w 7 ≤ w' 7) (e : ∀ k, 164 ≤ k → k < 938 → w' k = w k) : WP w' := fun p hp => by
  rw [e1] at hp
  have h8 : w 1 ≤ 8 := hC.2.2.2.1
  exact (h p hp).c (by omega) hC.2.1 (fun j hj => (hH j hj).2.1) e0 e6 e7 (fun k h1 h2 => e k h1 (by omega)) (fun k h1 h2 => e k (by omega) (by omega))
theorem WU.c {gh : Nat} {w w' : Nat → Int} (h : WU gh w) (hC : WC w) (e1 : w' 1 = w 1) (e7 : w' 7 = w 7) (ek : ∀ k : Nat, 290 ≤ k → k < 938 → w' k = w k) : WU gh w' := by
  have h8 : w 1 ≤ 8 := hC.2.2.2.1
  have e : ∀ p : Nat, p < 8 → w' (293 + 81 * p) = w (293 + 81 * p) := fun p hp => ek _ (by omega) (by omega)
  refine ⟨fun p q hp hq h1 h2 => ?_, ?_, fun p hp hq => ?_, h.2.2.2.1, fun p hp => ?_⟩
  · rw [e1] at hp hq
    rw [e p (by omega)] at h1 h2
    rw [e q (by omega)] at h2
    exact h.1 p q hp hq h1 h2
  · rw [e7, e1, h.2.1]
    refine sm_c fun i hi => ?_
    rw [e i (by omega)]
  · rw [e1] at hp
    rw [e p (by omega)] at hq
    rw [ek (298 + 81 * p) (by omega) (by omega)]
    exact h.2.2.1 p hp hq
  · rw [e1] at hp
    rw [ek (298 + 81 * p) (by omega) (by omega)]
    exact h.2.2.2.2 p hp
theorem WU.le {gh gk : Nat} {w : Nat → Int} (h : WU gh w) (e : gh ≤ gk) (e2 : gk ≤ 1000) : WU gk w := ⟨h.1, h.2.1, h.2.2.1, e2, fun p hp => by have := h.2.2.2.2 p hp; omega⟩
theorem WI.le {gh gk : Nat} {w : Nat → Int} (h : WI gh w) (e : gh ≤ gk) (e2 : gk ≤ 1000) : WI gk w := ⟨h.1, h.2.1, h.2.2.1, h.2.2.2.1, h.2.2.2.2.1.le e e2, h.2.2.2.2.2⟩
theorem WM.c {w w' : Nat → Int} (h : WM w) (hC : WC w) (e4 : w' 4 = w 4) (e : ∀ k, 938 ≤ k → k < 944 → w' k = w k) : WM w' := by
  have h6 : w 4 ≤ 6 := hC.2.2.2.2.2.2.2.2.2.1
  refine ⟨fun k hk => ?_, fun k hk => ?_⟩
  · rw [e4] at hk
    rw [e (938 + k) (by omega) (by omega)]
    exact h.1 k hk
  · rw [e4] at hk
    rw [e (938 + k) (by omega) (by omega), e (939 + k) (by omega) (by omega)]
    exact h.2 k hk
theorem WW.c {w w' : Nat → Int} (h : WW w) (hC : WC w) (e5 : w' 5 = w 5) (e : ∀ k, 944 ≤ k → k < 964 → w' k = w k) : WW w' := fun k hk => by
  have h20 : w 5 ≤ 20 := hC.2.2.2.2.2.2.2.2.2.2.2.1
  rw [e5] at hk
  rw [e (944 + k) (by omega) (by omega)]
  exact h k hk
theorem WN.c {w w' : Nat → Int} (h : WN w) (e : ∀ k, 964 ≤ k → k < 970 → w' k = w k) : WN w' := fun k hk => by
  rw [e (964 + k) (by omega) (by omega)]
  exact h k hk
theorem tr_c {w w' : Nat → Int} {b : Nat} {ru : Bool} : ∀ (n i : Nat) (T : List Bool), (∀ k, b + 51 + 2 * i ≤ k → k < b + 51 + 2 * (i + n) → w' k = w k) → tr_ w' b ru n i T = tr_ w b ru n i T := by
  intro n
  induction n with
  | zero => intro i T _; rfl
  | succ n ih =>
    intro i T e
    show Option.bind _ _ = Option.bind _ _
    rw [e (b + 51 + 2 * i) (by omega) (by omega), e (b + 52 + 2 * i) (by omega) (by omega)]
    congr 1
    funext T'
    exact ih (i + 1) T' (fun k h1 h2 => e k (by omega) (by omega))
theorem WTx.c {w w' : Nat → Int} {b : Nat} {ru : Bool} (h : WTx w b ru) (e : ∀ k, b ≤ k → k < b + 851 → w' k = w k) : WTx w' b ru := by
  obtain ⟨h1, h2, h3, h4, h5⟩ := h
  have eb := e b (by omega) (by omega)
  refine ⟨by rw [eb]; exact h1, by rw [eb]; exact h2, fun i hi => ?_, fun hq => ?_, fun i hi => ?_⟩
  · rw [eb] at hi
    have hl := h3 i hi
    unfold WLn at hl ⊢
    rw [e (b + 1 + 5 * i) (by omega) (by omega), e (b + 2 + 5 * i) (by omega) (by omega), e (b + 3 + 5 * i) (by omega) (by omega), e (b + 4 + 5 * i) (by omega) (by omega), e (b + 5 + 5 * i) (by omega) (by omega)]
    obtain ⟨g1, g2, g3, g4, g5, g6, g7, g8, g9⟩ := hl
    refine ⟨g1, g2, g3, g4, g5, g6, g7, g8, ?_⟩
    rcases g9 with g9 | g9
    · exact Or.inl g9
    · refine Or.inr ?_
      rw [tr_c _ _ _ (fun k q1 q2 => e k (by omega) (by omega))]
      exact g9
  · rw [eb] at hq
    rw [e (b + 4) (by omega) (by omega)]
    exact h4 hq
  · rw [eb] at hi
    rw [e (b + 9 + 5 * i) (by omega) (by omega), e (b + 5 + 5 * i) (by omega) (by omega)]
    exact h5 i hi
theorem WT.c {w w' : Nat → Int} (h : WT w) (hC : WC w) (e2 : w' 2 = w 2) (e3 : w' 3 = w 3) (e : ∀ k, 970 ≤ k → k < 6076 → w' k = w k) : WT w' := by
  have h2 : w 2 ≤ 3 := hC.2.2.2.2.2.1
  have h3 : w 3 ≤ 3 := hC.2.2.2.2.2.2.2.1
  refine ⟨fun t ht => ?_, fun t ht => ?_⟩
  · rw [e2] at ht
    exact (h.1 t ht).c (fun k q1 q2 => e k (by omega) (by omega))
  · rw [e3] at ht
    exact (h.2 t ht).c (fun k q1 q2 => e k (by omega) (by omega))
theorem WI.c {gh : Nat} {w w' : Nat → Int} (h : WI gh w) (e : ∀ k, k < 6076 → w' k = w k) : WI gh w' := by
  obtain ⟨h1, h2, h3, h4, h5, h6, h7, h8, h9⟩ := h
  exact ⟨h1.c (fun k hk => e k (by omega)), h2.c (fun k _ hk => e k (by omega)), h3.c h1 (e 0 (by omega)) (fun k _ hk => e k (by omega)), h4.c h1 h3 (e 0 (by omega)) (e 1 (by omega)) (by rw [e 6 (by omega)]; exact Int.le_refl _) (by rw [e 7 (by omega)]; exact Int.le_refl _) (fun k _ hk => e k (by omega)), h5.c h1 (e 1 (by omega)) (e 7 (by omega)) (fun k _ hk => e k (by omega)), h6.c h1 (e 4 (by omega)) (fun k _ hk => e k (by omega)), h7.c h1 (e 5 (by omega)) (fun k _ hk => e k (by omega)), h8.c (fun k _ hk => e k (by omega)), h9.c h1 (e 2 (by omega)) (e 3 (by omega)) (fun k _ hk => e k hk)⟩
