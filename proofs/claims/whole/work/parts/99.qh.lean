/-! ===== atoms, in step ===== -/
theorem c_wrF {x j : Nat} {ru : Bool} {h0 h : XH} {E : List (Int × Int)} (C : CS9 x ru h0 h j E) (hE : E.length ≤ 400) (s k : Int) : ∃ h' E', f_X8_write x h (jI (mu_ ru s k)) = some h' ∧ CS9 x ru h0 h' j E' ∧ E'.length ≤ 400 := by
  by_cases c : E.length < 400
  · obtain ⟨h', a, b⟩ := c_write C c s k
    exact ⟨h', _, a, b, by rw [List.length_append]; show E.length + 1 ≤ 400; omega⟩
  · refine ⟨h, E, ?_, C, hE⟩
    unfold f_X8_write
    rw [C.st, if_pos (show (400 : Int32) ≤ jI (E.length : Int) from (jI_le (a := 400) (by omega) (by omega) (by omega) (by omega)).mpr (by omega))]
theorem ib9 (b : Bool) : x_isb (bb9 b) = true := by cases b <;> decide
theorem bbi (b : Bool) : (if bb9 b = 0 then (0 : Int32) else 1) = bb9 b := by cases b <;> rfl
theorem cmp1160 {x L n : Nat} {V : Nat → Int} {ru : Bool} {c0 r0 : XH} {d j j0 : Nat} {fc : XH → Int32 → Option (Int32 × XH)} {fr : XH → Option (Int32 × XH)} (TC : TkC x V L n ru c0) (TR : TpR x V L ru r0) {c r : XH} {E F1 : List (Int × Int)} (S : St9 x V L n ru c0 r0 c r (j + 1) (E ++ F1) d) (hE : E.length + 2 ≤ j0) (hF : F1.length + j0 ≤ j) (ty : ∀ T : List Bool, T.length ≤ 15 → trL ru F1 T = some (false :: T)) :
    ∃ (ok : Bool) (c' r' : XH), (Option.bind (f_X8_readSum x c) (fun q12 => if q12.1 = 0 then f_X8_readAtom_161 fc x q12.2 else Option.bind (f_X8_write x q12.2 1160) (fun h13 => some (1, h13)))) = some (bb9 ok, c') ∧ f_X12_readAtom_172 fr x r 1 = some (bb9 ok, r') ∧ (ok = false → Fl9 x V L n ru c0 r0 c' r') ∧ (ok = true → ∃ j' F, St9 x V L n ru c0 r0 c' r' j' (E ++ F) d ∧ F.length + j0 ≤ j' ∧ ∀ T : List Bool, T.length ≤ 14 → trL ru F T = some (true :: T)) := by
  have n4 := TC.n4
  obtain ⟨ok1, c2, r2, d1, d2, d3, d4⟩ := sm9 TC TR S
  unfold f_X12_readAtom_172 f_X8_readAtom_161 f_X12_readAtom_179
  rw [d1, Option.bind_some, d2, Option.bind_some]
  cases ok1
  · rw [if_pos b9f, if_pos b9f]
    exact ⟨false, c2, r2, rfl, rfl, fun _ => d3 rfl, fun z => absurd z (by decide)⟩
  · obtain ⟨j1, F2, u1, u2, u3⟩ := d4 rfl
    obtain ⟨p2, g2, R2, hp2, hj2⟩ := u1.R
    have jn2 := u1.jn
    have le2 := u1.le
    have lE : (E ++ F1 ++ F2).length = E.length + F1.length + F2.length := by rw [List.length_append, List.length_append]
    obtain ⟨c3, v1, v2⟩ := c_write u1.C (by omega) 12 0
    obtain ⟨r3, w1, w2⟩ := r_em R2 (by omega) 12 0 ⟨by omega, by omega⟩ ⟨by omega, by omega⟩
    have lE2 : (E ++ F1 ++ F2 ++ [((12 : Int), (0 : Int))]).length = E.length + F1.length + F2.length + 1 := by rw [List.length_append, lE]; rfl
    rw [if_neg b9t, if_neg b9t]
    dsimp only
    rw [show f_X8_write x c2 1160 = _ from v1, Option.bind_some, if_neg (show ¬ (1 : Int32) = 0 by decide), show f_X12_emits x r2 12 0 = _ from w1, Option.bind_some]
    refine ⟨true, c3, r3, rfl, rfl, fun z => absurd z (by decide), fun _ => ⟨j1, F1 ++ F2 ++ [(12, 0)], ?_, ?_, fun T hT => ?_⟩⟩
    · rw [← List.append_assoc, ← List.append_assoc]
      exact ⟨v2, ⟨p2, _, w2, hp2, hj2⟩, jn2, by omega⟩
    · rw [List.length_append, List.length_append]
      have : [((12 : Int), (0 : Int))].length = 1 := rfl
      omega
    · rw [trL_a, trL_a, ty T (by omega), Option.bind_some, u3 (false :: T) (by show T.length + 1 ≤ 15; omega), Option.bind_some]
      exact ts_12
theorem cmp1162 {x L n : Nat} {V : Nat → Int} {ru : Bool} {c0 r0 : XH} {d j j0 : Nat} {fc : XH → Int32 → Option (Int32 × XH)} {fr : XH → Option (Int32 × XH)} (TC : TkC x V L n ru c0) (TR : TpR x V L ru r0) {c r : XH} {E F1 : List (Int × Int)} (S : St9 x V L n ru c0 r0 c r (j + 1) (E ++ F1) d) (hE : E.length + 2 ≤ j0) (hF : F1.length + j0 ≤ j) (ty : ∀ T : List Bool, T.length ≤ 15 → trL ru F1 T = some (false :: T)) :
    ∃ (ok : Bool) (c' r' : XH), (Option.bind (f_X8_readSum x c) (fun q12 => if q12.1 = 0 then f_X8_readAtom_161 fc x q12.2 else Option.bind (f_X8_write x q12.2 1162) (fun h13 => some (1, h13)))) = some (bb9 ok, c') ∧ f_X12_readAtom_172 fr x r 0 = some (bb9 ok, r') ∧ (ok = false → Fl9 x V L n ru c0 r0 c' r') ∧ (ok = true → ∃ j' F, St9 x V L n ru c0 r0 c' r' j' (E ++ F) d ∧ F.length + j0 ≤ j' ∧ ∀ T : List Bool, T.length ≤ 14 → trL ru F T = some (true :: T)) := by
  have n4 := TC.n4
  obtain ⟨ok1, c2, r2, d1, d2, d3, d4⟩ := sm9 TC TR S
  unfold f_X12_readAtom_172 f_X8_readAtom_161 f_X12_readAtom_179
  rw [d1, Option.bind_some, d2, Option.bind_some]
  cases ok1
  · rw [if_pos b9f, if_pos b9f]
    exact ⟨false, c2, r2, rfl, rfl, fun _ => d3 rfl, fun z => absurd z (by decide)⟩
  · obtain ⟨j1, F2, u1, u2, u3⟩ := d4 rfl
    obtain ⟨p2, g2, R2, hp2, hj2⟩ := u1.R
    have jn2 := u1.jn
    have le2 := u1.le
    have lE : (E ++ F1 ++ F2).length = E.length + F1.length + F2.length := by rw [List.length_append, List.length_append]
    obtain ⟨c3, v1, v2⟩ := c_write u1.C (by omega) 13 0
    obtain ⟨r3, w1, w2⟩ := r_em R2 (by omega) 13 0 ⟨by omega, by omega⟩ ⟨by omega, by omega⟩
    have lE2 : (E ++ F1 ++ F2 ++ [((13 : Int), (0 : Int))]).length = E.length + F1.length + F2.length + 1 := by rw [List.length_append, lE]; rfl
    rw [if_neg b9t, if_neg b9t]
    dsimp only
    rw [show f_X8_write x c2 1162 = _ from v1, Option.bind_some, if_pos rfl, show f_X12_emits x r2 13 0 = _ from w1, Option.bind_some]
    refine ⟨true, c3, r3, rfl, rfl, fun z => absurd z (by decide), fun _ => ⟨j1, F1 ++ F2 ++ [(13, 0)], ?_, ?_, fun T hT => ?_⟩⟩
    · rw [← List.append_assoc, ← List.append_assoc]
      exact ⟨v2, ⟨p2, _, w2, hp2, hj2⟩, jn2, by omega⟩
    · rw [List.length_append, List.length_append]
      have : [((13 : Int), (0 : Int))].length = 1 := rfl
      omega
    · rw [trL_a, trL_a, ty T (by omega), Option.bind_some, u3 (false :: T) (by show T.length + 1 ≤ 15; omega), Option.bind_some]
      exact ts_13
theorem atom9 {x L n : Nat} {V : Nat → Int} {ru : Bool} {c0 r0 : XH} (TC : TkC x V L n ru c0) (TR : TpR x V L ru r0) : ∀ (D d : Nat), d ≤ 6 → 7 ≤ D + d → ∀ (c r : XH) (j : Nat) (E : List (Int × Int)), St9 x V L n ru c0 r0 c r j E d → Pc9 x V L n ru c0 r0 j E d (2 * d + 2) true (f_X8_readAtom x D c (jI (d : Int))) (f_X12_readAtom x D r) := by
  intro D
  induction D with
  | zero => intro d h1 h2; omega
  | succ D ih =>
    intro d hd hD c r j E S
    obtain ⟨p, g, R, hp, hj⟩ := S.R
    have n4 := TC.n4
    have jn := S.jn
    have le := S.le
    have tr := th_r (V := V) (L := L) (j := j) ru TR.b
    have tf := (th_ft (V := V) (L := L) (j := j) ru TR.b).2
    rw [f_X8_readAtom, f_X12_readAtom]
    unfold f_X8_readAtomB f_X12_readAtomB
    rw [c_here TC S.C jn, Option.bind_some]
    obtain ⟨r1, p1, a1, a2, a3, a4⟩ := r_sign TR R hp hj (c := 40) (by omega) (by omega) (by decide) (by decide)
    rw [show f_X12_sign x r 40 = _ from a1, Option.bind_some]
    have q45 : jI (th_ V L ru (tb_ V L j)) = (1045 : Int32) ↔ th_ V L ru (tb_ V L j) = 1045 := jI_eq (b := 1045) (by omega) (by omega) (by omega) (by omega)
    have q40 : jI (th_ V L ru (tb_ V L j)) = (1140 : Int32) ↔ th_ V L ru (tb_ V L j) = 1140 := jI_eq (b := 1140) (by omega) (by omega) (by omega) (by omega)
    have d6 : (6 : Int32) ≤ jI (d : Int) ↔ 6 ≤ d := by
      rw [show (6 : Int32) = jI 6 from rfl, jI_le (by omega) (by omega) (by omega) (by omega)]
      omega
    have d6' : jI (d : Int) = (6 : Int32) ↔ d = 6 := by
      rw [show (6 : Int32) = jI 6 from rfl, jI_eq (by omega) (by omega) (by omega) (by omega)]
      omega
    have dm : jI ((d + 1 : Nat) : Int) - 1 = jI (d : Int) := by
      rw [show (1 : Int32) = jI 1 from rfl, jI_sub]
      congr 1
      omega
    unfold f_X8_readAtom_19 f_X8_readAtom_33
    by_cases t40 : th_ V L ru (tb_ V L j) = 1140
    · have t40' : th_ V L ru (tb_ V L j) = 1100 + 40 := by omega
      rw [if_pos t40'] at a4
      rw [if_neg (fun q => absurd (q45.mp q) (by omega)), if_pos (q40.mpr t40), decide_eq_true t40', if_neg b9t, a2.dp]
      by_cases c6 : d = 6
      · rw [if_pos (d6.mpr (by omega)), if_pos (d6'.mpr c6)]
        exact ⟨false, c, r1, rfl, rfl, fun _ => ⟨j, E, S.C, jn, by omega, p1, E, d, a2⟩, fun z => absurd z (by decide)⟩
      · rw [if_neg (fun q => absurd (d6.mp q) (by omega)), if_neg (fun q => c6 (d6'.mp q)), xl_, jI_s d]
        obtain ⟨c1, b1, b2, b3⟩ := c_tak9 TC TR.b S.C jn (v := th_ V L ru (tb_ V L j)) (by omega) (by omega)
        have cond : th_ V L ru (tb_ V L j) = th_ V L ru (tb_ V L j) ∧ th_ V L ru (tb_ V L j) ≠ 1099 := ⟨rfl, by omega⟩
        rw [decide_eq_true cond] at b1
        rw [if_pos cond] at b2
        have jn1 := b3 cond
        rw [b1, Option.bind_some, if_neg b9t, if_neg (fun q => absurd (q45.mp q) (by omega))]
        obtain ⟨ok1, c2, r2, e1, e2, e3, e4⟩ := eit9 (t := 2 * (d + 1)) (d := d + 1) TC TR (fun c r j E S => all9 (t := 2 * (d + 1) + 1) TC TR (fun c r j E S => ih (d + 1) (by omega) (by omega) c r j E S) S) (c := c1) (r := x_i r1 (x + 64) 9 (jI ((d + 1 : Nat) : Int))) (j := j + 1) (E := E) ⟨b2, ⟨p1, _, a2.dp' (d + 1), a3, a4⟩, jn1, by omega⟩
        dsimp only
        rw [e1, Option.bind_some, e2, Option.bind_some]
        unfold f_X8_readAtom_83
        cases ok1
        · rw [if_pos b9f, if_pos b9f]
          exact ⟨false, c2, r2, rfl, rfl, fun _ => e3 rfl, fun z => absurd z (by decide)⟩
        · obtain ⟨j1, F, u1, u2, u3⟩ := e4 rfl
          obtain ⟨p2, g2, R2, hp2, hj2⟩ := u1.R
          have jn2 := u1.jn
          have le2 := u1.le
          rw [if_neg b9t, if_neg b9t, xl_]
          dsimp only
          rw [R2.dp, dm]
          obtain ⟨c3, v1, v2, v3⟩ := c_tak9 TC TR.b u1.C jn2 (v := 1141) (by omega) (by omega)
          obtain ⟨r3, p3, w1, w2, w3, w4⟩ := r_sign TR (R2.dp' d) hp2 hj2 (c := 41) (by omega) (by omega) (by decide) (by decide)
          rw [show f_X8_take x c2 1141 = _ from v1, Option.bind_some, show f_X12_sign x _ 41 = _ from w1, Option.bind_some, if_pos (ib9 _)]
          dsimp only
          rw [bbi]
          have same : (th_ V L ru (tb_ V L j1) = 1141 ∧ (1141 : Int) ≠ 1099) ↔ th_ V L ru (tb_ V L j1) = 1100 + 41 := by omega
          by_cases q : th_ V L ru (tb_ V L j1) = 1100 + 41
          · have q1 := same.mpr q
            rw [if_pos q1] at v2
            rw [if_pos q] at w4
            have jn3 := v3 q1
            rw [decide_eq_true q1, decide_eq_true q]
            exact ⟨true, c3, r3, rfl, rfl, fun z => absurd z (by decide), fun _ => ⟨j1 + 1, F, ⟨v2, ⟨p3, _, w2, w3, w4⟩, jn3, by omega⟩, by omega, fun T hT => u3 T (by omega)⟩⟩
          · have q1 : ¬ (th_ V L ru (tb_ V L j1) = 1141 ∧ (1141 : Int) ≠ 1099) := fun z => q (same.mp z)
            rw [if_neg q1] at v2
            rw [decide_eq_false q1, decide_eq_false q]
            exact ⟨false, c3, r3, rfl, rfl, fun _ => ⟨j1, E ++ F, v2, jn2, by omega, p3, _, d, w2⟩, fun z => absurd z (by decide)⟩
    · have t40' : ¬ th_ V L ru (tb_ V L j) = 1100 + 40 := by omega
      rw [if_neg t40'] at a4
      obtain ⟨r2, p2, b1, b2, b3, b4⟩ := r_pass TR a2 a3 a4 (i := 5) (by omega)
      rw [decide_eq_false t40', if_pos b9f]
      dsimp only
      rw [show f_X12_passes x r1 65 = _ from b1, Option.bind_some]
      by_cases t45 : th_ V L ru (tb_ V L j) = 1045
      · have t45' : th_ V L ru (tb_ V L j) = 1040 + ((5 : Nat) : Int) := by omega
        rw [if_pos t45'] at b4
        rw [if_pos (q45.mpr t45), decide_eq_true t45', if_neg b9t, b2.dp]
        by_cases c6 : d = 6
        · rw [if_pos (d6.mpr (by omega)), if_pos (d6'.mpr c6)]
          exact ⟨false, c, r2, rfl, rfl, fun _ => ⟨j, E, S.C, jn, by omega, p2, E, d, b2⟩, fun z => absurd z (by decide)⟩
        · rw [if_neg (fun q => absurd (d6.mp q) (by omega)), if_neg (fun q => c6 (d6'.mp q)), xl_, jI_s d]
          obtain ⟨c1, f1, f2, f3⟩ := c_tak9 TC TR.b S.C jn (v := th_ V L ru (tb_ V L j)) (by omega) (by omega)
          have cond : th_ V L ru (tb_ V L j) = th_ V L ru (tb_ V L j) ∧ th_ V L ru (tb_ V L j) ≠ 1099 := ⟨rfl, by omega⟩
          rw [decide_eq_true cond] at f1
          rw [if_pos cond] at f2
          have jn1 := f3 cond
          rw [f1, Option.bind_some, if_neg b9t, if_pos (q45.mpr t45)]
          obtain ⟨ok1, c2, r3, e1, e2, e3, e4⟩ := ih (d + 1) (by omega) (by omega) c1 (x_i r2 (x + 64) 9 (jI ((d + 1 : Nat) : Int))) (j + 1) E ⟨f2, ⟨p2, _, b2.dp' (d + 1), b3, b4⟩, jn1, by omega⟩
          dsimp only
          rw [e1, Option.bind_some, e2, Option.bind_some]
          cases ok1
          · obtain ⟨jf, Ef, y1, y2, y3, y4⟩ := e3 rfl
            obtain ⟨c3, E3, z1, z2, z3⟩ := c_wrF y1 y3 14 0
            dsimp only
            rw [show f_X8_write x c2 1045 = _ from z1, Option.bind_some, if_pos (ib9 _), if_pos b9f]
            exact ⟨false, c3, r3, rfl, rfl, fun _ => ⟨jf, E3, z2, y2, z3, y4⟩, fun z => absurd z (by decide)⟩
          · obtain ⟨j1, F, u1, u2, u3⟩ := e4 rfl
            obtain ⟨p3, g3, R3, hp3, hj3⟩ := u1.R
            have jn2 := u1.jn
            have le2 := u1.le
            have lE : (E ++ F).length = E.length + F.length := List.length_append
            obtain ⟨c3, v1, v2⟩ := c_write u1.C (by omega) 14 0
            obtain ⟨r4, w1, w2⟩ := r_em (R3.dp' d) (by omega) 14 0 ⟨by omega, by omega⟩ ⟨by omega, by omega⟩
            have lE2 : (E ++ F ++ [((14 : Int), (0 : Int))]).length = E.length + F.length + 1 := by rw [List.length_append, lE]; rfl
            dsimp only
            rw [show f_X8_write x c2 1045 = _ from v1, Option.bind_some, if_pos (ib9 _), if_neg b9t, xl_, R3.dp, dm, show f_X12_emits x _ 14 0 = _ from w1, Option.bind_some]
            refine ⟨true, c3, r4, rfl, rfl, fun z => absurd z (by decide), fun _ => ⟨j1, F ++ [(14, 0)], ?_, ?_, fun T hT => ?_⟩⟩
            · rw [← List.append_assoc]
              exact ⟨v2, ⟨p3, _, w2, hp3, hj3⟩, jn2, by omega⟩
            · rw [List.length_append]
              have : [((14 : Int), (0 : Int))].length = 1 := rfl
              omega
            · rw [trL_a, u3 T (by omega), Option.bind_some]
              exact ts_14
      · have t45' : ¬ th_ V L ru (tb_ V L j) = 1040 + ((5 : Nat) : Int) := by omega
        rw [if_neg t45'] at b4
        rw [if_neg (fun q => t45 (q45.mp q)), if_neg (fun q => t40 (q40.mp q)), decide_eq_false t45', if_pos b9f]
        obtain ⟨r3, q, g1, g2, g3, g4, g5, g6, g7, g8, g9, g10⟩ := r_word TR b2 b3 b4
        dsimp only
        rw [g1, Option.bind_some, g6, Option.bind_some]
        have l20 : jI (th_ V L ru (tb_ V L j)) < (1020 : Int32) ↔ th_ V L ru (tb_ V L j) < 1020 := jI_lt (b := 1020) (by omega) (by omega) (by omega) (by omega)
        have l40 : (1040 : Int32) ≤ jI (th_ V L ru (tb_ V L j)) ↔ 1040 ≤ th_ V L ru (tb_ V L j) := jI_le (a := 1040) (by omega) (by omega) (by omega) (by omega)
        by_cases tg : 1020 ≤ th_ V L ru (tb_ V L j) ∧ th_ V L ru (tb_ V L j) < 1040
        · have gb := tf tg.1 tg.2
          have gb2 : gG9 ru (th_ V L ru (tb_ V L j)) < 10 := by
            have := gb.2
            cases ru <;> simp at this <;> omega
          have mug : jI (th_ V L ru (tb_ V L j)) - 1020 + 1000 = jI (mu_ ru (gG9 ru (th_ V L ru (tb_ V L j))) 0) := by
            rw [show (1020 : Int32) = jI 1020 from rfl, show (1000 : Int32) = jI 1000 from rfl, jI_sub, jI_add]
            congr 1
            have e : gG9 ru (th_ V L ru (tb_ V L j)) = th_ V L ru (tb_ V L j) - 1020 - (if ru then 4 else 8) + 8 := if_pos tg
            unfold mu_
            rw [if_neg (by omega), if_pos (by omega)]
            cases ru
            · simp only [Bool.false_eq_true, if_false, false_and] at e gb ⊢
              omega
            · simp only [if_true, true_and] at e gb ⊢
              rw [if_pos (by omega)]
              omega
          rw [if_neg (fun z => absurd (l20.mp z) (by omega)), if_neg (fun z => absurd (l40.mp z) (by omega)), mug, if_neg (fun z => absurd ((jlt0 (by omega) (by omega)).mp z) (by omega))]
          obtain ⟨c1, v1, v2⟩ := c_write S.C (by omega) (gG9 ru (th_ V L ru (tb_ V L j))) 0
          obtain ⟨r4, w1, w2⟩ := r_em g2 (by omega) (gG9 ru (th_ V L ru (tb_ V L j))) 0 ⟨by omega, by omega⟩ ⟨by omega, by omega⟩
          obtain ⟨c2, f1, f2, f3⟩ := c_tak9 TC TR.b v2 jn (v := th_ V L ru (tb_ V L j)) (by omega) (by omega)
          have cond : th_ V L ru (tb_ V L j) = th_ V L ru (tb_ V L j) ∧ th_ V L ru (tb_ V L j) ≠ 1099 := ⟨rfl, by omega⟩
          rw [decide_eq_true cond] at f1
          rw [if_pos cond] at f2
          have lE2 : (E ++ [(gG9 ru (th_ V L ru (tb_ V L j)), (0 : Int))]).length = E.length + 1 := by rw [List.length_append]; rfl
          rw [v1, Option.bind_some, f1, Option.bind_some, if_pos (ib9 _), show f_X12_emits x r3 (jI (gG9 ru (th_ V L ru (tb_ V L j)))) 0 = _ from w1, Option.bind_some]
          refine ⟨true, c2, r4, rfl, rfl, fun z => absurd z (by decide), fun _ => ⟨j + 1, [(gG9 ru (th_ V L ru (tb_ V L j)), 0)], ⟨f2, ⟨q, _, w2, g3, (g8 (by omega) (by omega)).2⟩, f3 cond, by omega⟩, by show 1 + j ≤ j + 1; omega, fun T hT => ?_⟩⟩
          have ts : ts_ ru (gG9 ru (th_ V L ru (tb_ V L j))) 0 T = some (true :: T) := by
            unfold ts_
            rw [if_neg (by omega), if_neg (by cases ru <;> simp <;> omega), if_pos (by
              have := gb.2
              cases ru
              · simp at this
                by_cases z : gG9 false (th_ V L false (tb_ V L j)) = 8
                · exact .inl z
                · exact .inr ⟨by omega, rfl⟩
              · simp at this
                exact .inl (by omega)), if_pos (by omega)]
          show Option.bind (ts_ ru (gG9 ru (th_ V L ru (tb_ V L j))) 0 T) (fun T' => some T') = _
          rw [ts]
          rfl
        · have gm : gG9 ru (th_ V L ru (tb_ V L j)) = -1 := if_neg tg
          have e118 : (if jI (th_ V L ru (tb_ V L j)) < (1020 : Int32) then f_X8_readAtom_118 (f_X8_readAtom x D) x c else if (1040 : Int32) ≤ jI (th_ V L ru (tb_ V L j)) then f_X8_readAtom_118 (f_X8_readAtom x D) x c else Option.bind (f_X8_write x c (jI (th_ V L ru (tb_ V L j)) - 1020 + 1000)) (fun h14 => Option.bind (f_X8_take x h14 (jI (th_ V L ru (tb_ V L j)))) (fun q15 => if x_isb q15.1 = true then some (q15.1, q15.2) else none))) = f_X8_readAtom_118 (f_X8_readAtom x D) x c := by
            by_cases z : th_ V L ru (tb_ V L j) < 1020
            · rw [if_pos (l20.mpr z)]
            · rw [if_neg (fun y => z (l20.mp y)), if_pos (l40.mpr (by omega))]
          rw [e118, gm, if_pos (show jI (-1) < (0 : Int32) by decide), xl_, g2.bg]
          obtain ⟨ok1, c1, r4, e1, e2, e3, e4⟩ := sm9 TC TR (c := c) (r := x_i r3 (x + 64) 6 (jI ((tb_ V L j : Nat) : Int))) (j := j) (E := E) (d := d) ⟨S.C, ⟨tb_ V L j, _, g2.mv (tb_ V L j), tb_L j, g10⟩, jn, le⟩
          unfold f_X8_readAtom_118
          rw [e1, Option.bind_some, e2, Option.bind_some]
          cases ok1
          · rw [if_pos b9f, if_pos b9f]
            exact ⟨false, c1, r4, rfl, rfl, fun _ => e3 rfl, fun z => absurd z (by decide)⟩
          · obtain ⟨j1, F1, u1, u2, u3⟩ := e4 rfl
            obtain ⟨p5, g5', R5, hp5, hj5⟩ := u1.R
            have jn2 := u1.jn
            have le2 := u1.le
            have tr1 := th_r (V := V) (L := L) (j := j1) ru TR.b
            have s60 : jI (th_ V L ru (tb_ V L j1)) = (1160 : Int32) ↔ th_ V L ru (tb_ V L j1) = 1160 := jI_eq (b := 1160) (by omega) (by omega) (by omega) (by omega)
            have s62 : jI (th_ V L ru (tb_ V L j1)) = (1162 : Int32) ↔ th_ V L ru (tb_ V L j1) = 1162 := jI_eq (b := 1162) (by omega) (by omega) (by omega) (by omega)
            obtain ⟨r5, p6, h1, h2, h3, h4⟩ := r_sign TR R5 hp5 hj5 (c := 60) (by omega) (by omega) (by decide) (by decide)
            rw [if_neg b9t, if_neg b9t]
            dsimp only
            rw [c_here TC u1.C jn2, Option.bind_some, show f_X12_sign x r4 60 = _ from h1, Option.bind_some]
            unfold f_X8_readAtom_146
            by_cases x60 : th_ V L ru (tb_ V L j1) = 1160
            · have x60' : th_ V L ru (tb_ V L j1) = 1100 + 60 := by omega
              rw [if_pos x60'] at h4
              obtain ⟨c2, f1, f2, f3⟩ := c_tak9 TC TR.b u1.C jn2 (v := 1160) (by omega) (by omega)
              have cond : th_ V L ru (tb_ V L j1) = 1160 ∧ (1160 : Int) ≠ 1099 := ⟨x60, by omega⟩
              rw [decide_eq_true cond] at f1
              rw [if_pos cond] at f2
              rw [if_pos (s60.mpr x60), x60, f1, Option.bind_some, if_neg b9t, show decide ((1160 : Int) = 1100 + 60) = true from rfl, if_neg b9t]
              obtain ⟨ok, c', r', k1, k2, k3, k4⟩ := cmp1160 (fc := f_X8_readAtom x D) (fr := f_X12_readAtom x D) TC TR (c := c2) (r := r5) (j := j1) (j0 := j) (E := E) (F1 := F1) (d := d) ⟨f2, ⟨p6, _, h2, h3, h4⟩, f3 cond, by omega⟩ le u2 u3
              refine ⟨ok, c', r', k1, k2, k3, fun z => ?_⟩
              obtain ⟨j', F, y1, y2, y3⟩ := k4 z
              exact ⟨j', F, y1, y2, fun T hT => y3 T (by omega)⟩
            · have x60' : ¬ th_ V L ru (tb_ V L j1) = 1100 + 60 := by omega
              rw [if_neg x60'] at h4
              obtain ⟨r6, p7, i1, i2, i3, i4⟩ := r_sign TR h2 h3 h4 (c := 62) (by omega) (by omega) (by decide) (by decide)
              rw [if_neg (fun z => x60 (s60.mp z)), decide_eq_false x60', if_pos b9f]
              dsimp only
              rw [show f_X12_sign x r5 62 = _ from i1, Option.bind_some]
              by_cases x62 : th_ V L ru (tb_ V L j1) = 1162
              · have x62' : th_ V L ru (tb_ V L j1) = 1100 + 62 := by omega
                rw [if_pos x62'] at i4
                obtain ⟨c2, f1, f2, f3⟩ := c_tak9 TC TR.b u1.C jn2 (v := 1162) (by omega) (by omega)
                have cond : th_ V L ru (tb_ V L j1) = 1162 ∧ (1162 : Int) ≠ 1099 := ⟨x62, by omega⟩
                rw [decide_eq_true cond] at f1
                rw [if_pos cond] at f2
                rw [if_pos (s62.mpr x62), x62, f1, Option.bind_some, if_neg b9t, show decide ((1162 : Int) = 1100 + 62) = true from rfl, if_neg b9t]
                obtain ⟨ok, c', r', k1, k2, k3, k4⟩ := cmp1162 (fc := f_X8_readAtom x D) (fr := f_X12_readAtom x D) TC TR (c := c2) (r := r6) (j := j1) (j0 := j) (E := E) (F1 := F1) (d := d) ⟨f2, ⟨p7, _, i2, i3, i4⟩, f3 cond, by omega⟩ le u2 u3
                refine ⟨ok, c', r', k1, k2, k3, fun z => ?_⟩
                obtain ⟨j', F, y1, y2, y3⟩ := k4 z
                exact ⟨j', F, y1, y2, fun T hT => y3 T (by omega)⟩
              · have x62' : ¬ th_ V L ru (tb_ V L j1) = 1100 + 62 := by omega
                rw [if_neg (fun z => x62 (s62.mp z)), decide_eq_false x62', if_pos b9f]
                exact ⟨false, c1, r6, rfl, rfl, fun _ => ⟨j1, E ++ F1, u1.C, jn2, by omega, p7, _, d, i2⟩, fun z => absurd z (by decide)⟩
theorem cond9 {x L n : Nat} {V : Nat → Int} {ru : Bool} {c0 r0 c r : XH} {j : Nat} {E : List (Int × Int)} (TC : TkC x V L n ru c0) (TR : TpR x V L ru r0) (S : St9 x V L n ru c0 r0 c r j E 0) : Pc9 x V L n ru c0 r0 j E 0 0 true (f_X8_readEither (f_X8_readAtom x 8) x c (jI ((0 : Nat) : Int))) (f_X12_readCond (f_X12_readAtom x 8) x r) :=
  eit9 (t := 0) (d := 0) TC TR (fun c r j E S => all9 (t := 1) TC TR (fun c r j E S => atom9 TC TR 8 0 (by omega) (by omega) c r j E S) S) S
