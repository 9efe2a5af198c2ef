/-! ===== conditions, in step ===== -/
theorem ts_15 {ru : Bool} {T : List Bool} : trL ru [(15, 0)] (true :: true :: T) = some (true :: T) := by
  cases ru <;> rfl
theorem ts_16 {ru : Bool} {T : List Bool} : trL ru [(16, 0)] (true :: true :: T) = some (true :: T) := by
  cases ru <;> rfl
theorem ts_14 {ru : Bool} {T : List Bool} : trL ru [(14, 0)] (true :: T) = some (true :: T) := by
  cases ru <;> cases T <;> rfl
theorem ts_12 {ru : Bool} {T : List Bool} : trL ru [(12, 0)] (false :: false :: T) = some (true :: T) := by
  cases ru <;> rfl
theorem ts_13 {ru : Bool} {T : List Bool} : trL ru [(13, 0)] (false :: false :: T) = some (true :: T) := by
  cases ru <;> rfl
theorem all9l {x L n : Nat} {V : Nat → Int} {ru : Bool} {c0 r0 : XH} {d t : Nat} {fc : XH → Int32 → Option (Int32 × XH)} {fr : XH → Option (Int32 × XH)} (TC : TkC x V L n ru c0) (TR : TpR x V L ru r0) (hg : ∀ c r j E, St9 x V L n ru c0 r0 c r j E d → Pc9 x V L n ru c0 r0 j E d (t + 1) true (fc c (jI (d : Int))) (fr r)) : ∀ (N j k m m' : Nat) (E : List (Int × Int)) (c r : XH), n - j = N → N < m → N < m' → St9 x V L n ru c0 r0 c r j E d → k + 2 ≤ j →
    ∃ (ok : Bool) (c' r' : XH), f_X8_readAll_12 fc x m c (jI (d : Int)) (jI (k : Int)) = some (bb9 ok, c') ∧ f_X12_readAllOf_9 fr x m' r = some (bb9 ok, r') ∧ (ok = false → Fl9 x V L n ru c0 r0 c' r') ∧ (ok = true → ∃ j' F, St9 x V L n ru c0 r0 c' r' j' (E ++ F) d ∧ F.length + j ≤ j' ∧ ∀ T : List Bool, T.length ≤ t → trL ru F (true :: T) = some (true :: T)) := by
  intro N
  induction N using Nat.strongRecOn with
  | _ N ih =>
    intro j k m m' E c r hN hm hm' S hk
    obtain ⟨m, rfl⟩ : ∃ q, m = q + 1 := ⟨m - 1, by omega⟩
    obtain ⟨m', rfl⟩ : ∃ q, m' = q + 1 := ⟨m' - 1, by omega⟩
    obtain ⟨p, g, R, hp, hj⟩ := S.R
    have n4 := TC.n4
    have jn := S.jn
    have le := S.le
    obtain ⟨c1, a1, a2, a3⟩ := c_tak9 TC TR.b S.C jn (v := 1043) (by omega) (by omega)
    obtain ⟨r1, p1, b1, b2, b3, b4⟩ := r_pass TR R hp hj (i := 3) (by omega)
    rw [f_X8_readAll_12, if_neg (show ¬ (400 : Int32) ≤ jI (k : Int) from fun q => absurd ((jI_le (a := 400) (by omega) (by omega) (by omega) (by omega)).mp q) (by omega)), show f_X8_take x c 1043 = _ from a1, Option.bind_some, f_X12_readAllOf_9, show f_X12_passes x r 69 = _ from b1, Option.bind_some]
    by_cases q : th_ V L ru (tb_ V L j) = 1043
    · have q1 : th_ V L ru (tb_ V L j) = 1043 ∧ (1043 : Int) ≠ 1099 := ⟨q, by omega⟩
      have q2 : th_ V L ru (tb_ V L j) = 1040 + ((3 : Nat) : Int) := by omega
      rw [if_pos q1] at a2
      rw [if_pos q2] at b4
      have jn1 := a3 q1
      rw [decide_eq_true q1, decide_eq_true q2, if_neg b9t, if_neg b9t]
      obtain ⟨ok1, c2, r2, d1, d2, d3, d4⟩ := hg c1 r1 (j + 1) E ⟨a2, ⟨p1, _, b2, b3, b4⟩, jn1, by omega⟩
      dsimp only
      rw [d1, Option.bind_some, d2, Option.bind_some]
      cases ok1
      · rw [if_pos b9f, if_pos b9f]
        exact ⟨false, c2, r2, rfl, rfl, fun _ => d3 rfl, fun z => absurd z (by decide)⟩
      · obtain ⟨j1, F1, u1, u2, u3⟩ := d4 rfl
        obtain ⟨p2, g2, R2, hp2, hj2⟩ := u1.R
        have jn2 := u1.jn
        have le2 := u1.le
        have lE : (E ++ F1).length = E.length + F1.length := List.length_append
        obtain ⟨c3, v1, v2⟩ := c_write u1.C (by omega) 15 0
        obtain ⟨r3, w1, w2⟩ := r_em R2 (by omega) 15 0 ⟨by omega, by omega⟩ ⟨by omega, by omega⟩
        have lE2 : (E ++ F1 ++ [((15 : Int), (0 : Int))]).length = E.length + F1.length + 1 := by rw [List.length_append, lE]; rfl
        rw [if_neg b9t, if_neg b9t]
        dsimp only
        rw [show f_X8_write x c2 1043 = _ from v1, Option.bind_some, show f_X12_emits x r2 15 0 = _ from w1, Option.bind_some, jI_s k]
        obtain ⟨ok, c', r', g1, g2, g3, g4⟩ := ih (n - j1) (by omega) j1 (k + 1) m m' (E ++ F1 ++ [(15, 0)]) c3 r3 rfl (by omega) (by omega) ⟨v2, ⟨p2, _, w2, hp2, hj2⟩, jn2, by omega⟩ (by omega)
        refine ⟨ok, c', r', g1, g2, g3, fun z => ?_⟩
        obtain ⟨j', F, x1, x2, x3⟩ := g4 z
        refine ⟨j', F1 ++ [(15, 0)] ++ F, by rw [← List.append_assoc, ← List.append_assoc]; exact x1, ?_, fun T hT => ?_⟩
        · rw [List.length_append, List.length_append]
          have : [((15 : Int), (0 : Int))].length = 1 := rfl
          omega
        · rw [trL_a, trL_a, u3 (true :: T) (by show T.length + 1 ≤ t + 1; omega), Option.bind_some, ts_15, Option.bind_some]
          exact x3 T hT
    · have q1 : ¬ (th_ V L ru (tb_ V L j) = 1043 ∧ (1043 : Int) ≠ 1099) := fun z => q z.1
      have q2 : ¬ th_ V L ru (tb_ V L j) = 1040 + ((3 : Nat) : Int) := by omega
      rw [if_neg q1] at a2
      rw [if_neg q2] at b4
      rw [decide_eq_false q1, decide_eq_false q2, if_pos b9f, if_pos b9f]
      exact ⟨true, c1, r1, rfl, rfl, fun z => absurd z (by decide), fun _ => ⟨j, [], ⟨by rw [List.append_nil]; exact a2, by rw [List.append_nil]; exact ⟨p1, _, b2, b3, b4⟩, jn, by rw [List.append_nil]; exact le⟩, by show 0 + j ≤ j; omega, fun T _ => rfl⟩⟩
theorem all9 {x L n : Nat} {V : Nat → Int} {ru : Bool} {c0 r0 : XH} {d t : Nat} {fc : XH → Int32 → Option (Int32 × XH)} {fr : XH → Option (Int32 × XH)} (TC : TkC x V L n ru c0) (TR : TpR x V L ru r0) (hg : ∀ c r j E, St9 x V L n ru c0 r0 c r j E d → Pc9 x V L n ru c0 r0 j E d (t + 1) true (fc c (jI (d : Int))) (fr r)) {c r : XH} {j : Nat} {E : List (Int × Int)} (S : St9 x V L n ru c0 r0 c r j E d) : Pc9 x V L n ru c0 r0 j E d t true (f_X8_readAll fc x c (jI (d : Int))) (f_X12_readAllOf fr x r) := by
  have n4 := TC.n4
  have le := S.le
  obtain ⟨ok1, c2, r2, d1, d2, d3, d4⟩ := hg c r j E S
  unfold f_X8_readAll f_X12_readAllOf
  rw [d1, Option.bind_some, d2, Option.bind_some]
  cases ok1
  · rw [if_pos b9f, if_pos b9f]
    exact ⟨false, c2, r2, rfl, rfl, fun _ => d3 rfl, fun z => absurd z (by decide)⟩
  · obtain ⟨j1, F1, u1, u2, u3⟩ := d4 rfl
    have le1 := u1.le
    rw [if_neg b9t, if_neg b9t]
    obtain ⟨ok, c', r', g1, g2, g3, g4⟩ := all9l TC TR hg (n - j1) j1 0 x_FU x_FU (E ++ F1) c2 r2 rfl (by show n - j1 < 100000; omega) (by show n - j1 < 100000; omega) u1 (by omega)
    refine ⟨ok, c', r', g1, g2, g3, fun z => ?_⟩
    obtain ⟨j', F, x1, x2, x3⟩ := g4 z
    refine ⟨j', F1 ++ F, by rw [← List.append_assoc]; exact x1, ?_, fun T hT => ?_⟩
    · rw [List.length_append]
      omega
    · rw [trL_a, u3 T (by omega), Option.bind_some]
      exact x3 T hT
theorem eit9l {x L n : Nat} {V : Nat → Int} {ru : Bool} {c0 r0 : XH} {d t : Nat} {fc : XH → Int32 → Option (Int32 × XH)} {fr : XH → Option (Int32 × XH)} (TC : TkC x V L n ru c0) (TR : TpR x V L ru r0) (hg : ∀ c r j E, St9 x V L n ru c0 r0 c r j E d → Pc9 x V L n ru c0 r0 j E d (t + 1) true (f_X8_readAll fc x c (jI (d : Int))) (f_X12_readAllOf fr x r)) : ∀ (N j k m m' : Nat) (E : List (Int × Int)) (c r : XH), n - j = N → N < m → N < m' → St9 x V L n ru c0 r0 c r j E d → k + 2 ≤ j →
    ∃ (ok : Bool) (c' r' : XH), f_X8_readEither_12 fc x m c (jI (d : Int)) (jI (k : Int)) = some (bb9 ok, c') ∧ f_X12_readCond_9 fr x m' r = some (bb9 ok, r') ∧ (ok = false → Fl9 x V L n ru c0 r0 c' r') ∧ (ok = true → ∃ j' F, St9 x V L n ru c0 r0 c' r' j' (E ++ F) d ∧ F.length + j ≤ j' ∧ ∀ T : List Bool, T.length ≤ t → trL ru F (true :: T) = some (true :: T)) := by
  intro N
  induction N using Nat.strongRecOn with
  | _ N ih =>
    intro j k m m' E c r hN hm hm' S hk
    obtain ⟨m, rfl⟩ : ∃ q, m = q + 1 := ⟨m - 1, by omega⟩
    obtain ⟨m', rfl⟩ : ∃ q, m' = q + 1 := ⟨m' - 1, by omega⟩
    obtain ⟨p, g, R, hp, hj⟩ := S.R
    have n4 := TC.n4
    have jn := S.jn
    have le := S.le
    obtain ⟨c1, a1, a2, a3⟩ := c_tak9 TC TR.b S.C jn (v := 1044) (by omega) (by omega)
    obtain ⟨r1, p1, b1, b2, b3, b4⟩ := r_pass TR R hp hj (i := 4) (by omega)
    rw [f_X8_readEither_12, if_neg (show ¬ (400 : Int32) ≤ jI (k : Int) from fun q => absurd ((jI_le (a := 400) (by omega) (by omega) (by omega) (by omega)).mp q) (by omega)), show f_X8_take x c 1044 = _ from a1, Option.bind_some, f_X12_readCond_9, show f_X12_passes x r 70 = _ from b1, Option.bind_some]
    by_cases q : th_ V L ru (tb_ V L j) = 1044
    · have q1 : th_ V L ru (tb_ V L j) = 1044 ∧ (1044 : Int) ≠ 1099 := ⟨q, by omega⟩
      have q2 : th_ V L ru (tb_ V L j) = 1040 + ((4 : Nat) : Int) := by omega
      rw [if_pos q1] at a2
      rw [if_pos q2] at b4
      have jn1 := a3 q1
      rw [decide_eq_true q1, decide_eq_true q2, if_neg b9t, if_neg b9t]
      obtain ⟨ok1, c2, r2, d1, d2, d3, d4⟩ := hg c1 r1 (j + 1) E ⟨a2, ⟨p1, _, b2, b3, b4⟩, jn1, by omega⟩
      dsimp only
      rw [d1, Option.bind_some, d2, Option.bind_some]
      cases ok1
      · rw [if_pos b9f, if_pos b9f]
        exact ⟨false, c2, r2, rfl, rfl, fun _ => d3 rfl, fun z => absurd z (by decide)⟩
      · obtain ⟨j1, F1, u1, u2, u3⟩ := d4 rfl
        obtain ⟨p2, g2, R2, hp2, hj2⟩ := u1.R
        have jn2 := u1.jn
        have le2 := u1.le
        have lE : (E ++ F1).length = E.length + F1.length := List.length_append
        obtain ⟨c3, v1, v2⟩ := c_write u1.C (by omega) 16 0
        obtain ⟨r3, w1, w2⟩ := r_em R2 (by omega) 16 0 ⟨by omega, by omega⟩ ⟨by omega, by omega⟩
        have lE2 : (E ++ F1 ++ [((16 : Int), (0 : Int))]).length = E.length + F1.length + 1 := by rw [List.length_append, lE]; rfl
        rw [if_neg b9t, if_neg b9t]
        dsimp only
        rw [show f_X8_write x c2 1044 = _ from v1, Option.bind_some, show f_X12_emits x r2 16 0 = _ from w1, Option.bind_some, jI_s k]
        obtain ⟨ok, c', r', g1, g2, g3, g4⟩ := ih (n - j1) (by omega) j1 (k + 1) m m' (E ++ F1 ++ [(16, 0)]) c3 r3 rfl (by omega) (by omega) ⟨v2, ⟨p2, _, w2, hp2, hj2⟩, jn2, by omega⟩ (by omega)
        refine ⟨ok, c', r', g1, g2, g3, fun z => ?_⟩
        obtain ⟨j', F, x1, x2, x3⟩ := g4 z
        refine ⟨j', F1 ++ [(16, 0)] ++ F, by rw [← List.append_assoc, ← List.append_assoc]; exact x1, ?_, fun T hT => ?_⟩
        · rw [List.length_append, List.length_append]
          have : [((16 : Int), (0 : Int))].length = 1 := rfl
          omega
        · rw [trL_a, trL_a, u3 (true :: T) (by show T.length + 1 ≤ t + 1; omega), Option.bind_some, ts_16, Option.bind_some]
          exact x3 T hT
    · have q1 : ¬ (th_ V L ru (tb_ V L j) = 1044 ∧ (1044 : Int) ≠ 1099) := fun z => q z.1
      have q2 : ¬ th_ V L ru (tb_ V L j) = 1040 + ((4 : Nat) : Int) := by omega
      rw [if_neg q1] at a2
      rw [if_neg q2] at b4
      rw [decide_eq_false q1, decide_eq_false q2, if_pos b9f, if_pos b9f]
      exact ⟨true, c1, r1, rfl, rfl, fun z => absurd z (by decide), fun _ => ⟨j, [], ⟨by rw [List.append_nil]; exact a2, by rw [List.append_nil]; exact ⟨p1, _, b2, b3, b4⟩, jn, by rw [List.append_nil]; exact le⟩, by show 0 + j ≤ j; omega, fun T _ => rfl⟩⟩
theorem eit9 {x L n : Nat} {V : Nat → Int} {ru : Bool} {c0 r0 : XH} {d t : Nat} {fc : XH → Int32 → Option (Int32 × XH)} {fr : XH → Option (Int32 × XH)} (TC : TkC x V L n ru c0) (TR : TpR x V L ru r0) (hg : ∀ c r j E, St9 x V L n ru c0 r0 c r j E d → Pc9 x V L n ru c0 r0 j E d (t + 1) true (f_X8_readAll fc x c (jI (d : Int))) (f_X12_readAllOf fr x r)) {c r : XH} {j : Nat} {E : List (Int × Int)} (S : St9 x V L n ru c0 r0 c r j E d) : Pc9 x V L n ru c0 r0 j E d t true (f_X8_readEither fc x c (jI (d : Int))) (f_X12_readCond fr x r) := by
  have n4 := TC.n4
  have le := S.le
  obtain ⟨ok1, c2, r2, d1, d2, d3, d4⟩ := hg c r j E S
  unfold f_X8_readEither f_X12_readCond
  rw [d1, Option.bind_some, d2, Option.bind_some]
  cases ok1
  · rw [if_pos b9f, if_pos b9f]
    exact ⟨false, c2, r2, rfl, rfl, fun _ => d3 rfl, fun z => absurd z (by decide)⟩
  · obtain ⟨j1, F1, u1, u2, u3⟩ := d4 rfl
    have le1 := u1.le
    rw [if_neg b9t, if_neg b9t]
    obtain ⟨ok, c', r', g1, g2, g3, g4⟩ := eit9l TC TR hg (n - j1) j1 0 x_FU x_FU (E ++ F1) c2 r2 rfl (by show n - j1 < 100000; omega) (by show n - j1 < 100000; omega) u1 (by omega)
    refine ⟨ok, c', r', g1, g2, g3, fun z => ?_⟩
    obtain ⟨j', F, x1, x2, x3⟩ := g4 z
    refine ⟨j', F1 ++ F, by rw [← List.append_assoc]; exact x1, ?_, fun T hT => ?_⟩
    · rw [List.length_append]
      omega
    · rw [trL_a, u3 T (by omega), Option.bind_some]
      exact x3 T hT
