/-! ===== a line, from its start ===== -/
theorem LL9.r {x i k : Nat} {ru : Bool} {c0 r0 : XH} {E : List (Int × Int)} {v : Int32} (ll : LL9 x ru i c0 r0 E) (h : 6077 + 5 * i ≤ k) : LL9 x ru i c0 (x_i r0 (x + 65) k v) E := by
  refine ⟨ll.1, fun q hq => ?_⟩
  obtain ⟨sg', nu', fa', a', b', q1, q2, q3, q4, q5, q6, q7, q8, q9, q10, q11, q12, q13, q14, q15, q16, q17, q18, q19⟩ := ll.2 q hq
  refine ⟨sg', nu', fa', a', b', q1, q2, q3, ?_, ?_, ?_, ?_, ?_, q9, q10, q11, q12, q13, q14, q15, q16, fun z => ?_, q18, q19⟩
  · rw [gi_k (by omega)]; exact q4
  · rw [gi_k (by omega)]; exact q5
  · rw [gi_k (by omega)]; exact q6
  · rw [gi_k (by omega)]; exact q7
  · rw [gi_k (by omega)]; exact q8
  · rw [gi_k (by omega)]; exact q17 z
theorem line24 {x L n i j : Nat} {V : Nat → Int} {ru : Bool} {c0 r0 c r : XH} {E : List (Int × Int)} {p g d : Nat} {sg : Int} (TC : TkC x V L n ru c0) (TR : TpR x V L ru r0) (hi : i < 10) (C : CS9 x ru c0 c j E) (R : RS9 x r0 r p g E d) (hp : p ≤ L) (hj : re9_ V L b9_ p = tb_ V L j) (jn : j ≤ n) (le : E.length + 1 ≤ j) (ll : LL9 x ru i c0 r0 E) (l0 : i = 0 → E = []) (b1 : sg = 0 ∨ sg = 1) :
    ∃ (ok : Bool) (c' r' c0' r0' : XH), f_X8_readLine_24 x c (bb9 (decide (sg = 0))) = some (bb9 ok, c') ∧ f_X12_readLine_51 x r (jI ((6077 + 5 * i : Nat) : Int)) (jI ((6077 + 5 * i : Nat) : Int)) (jI sg) = some (bb9 ok, r') ∧ BF9 x c0 r0 c0' r0' ∧ (ok = false → Fl9 x V L n ru c0' r0' c' r') ∧ (ok = true → ∃ j' F p' g' d', TkC x V L n ru c0' ∧ TpR x V L ru r0' ∧ CS9 x ru c0' c' j' (E ++ F) ∧ RS9 x r0' r' p' g' (E ++ F) d' ∧ p' ≤ L ∧ re9_ V L b9_ p' = tb_ V L j' ∧ j' ≤ n ∧ (E ++ F).length ≤ j' ∧ j ≤ j' ∧ LL9 x ru (i + 1) c0' r0' (E ++ F)) := by
  have n4 := TC.n4
  have e1 : jI ((6077 + 5 * i : Nat) : Int) + 1 = jI ((6078 + 5 * i : Nat) : Int) := by
    rw [show (1 : Int32) = jI 1 from rfl, jI_add]
    congr 1
    omega
  have e2 : jI ((6077 + 5 * i : Nat) : Int) + 2 = jI ((6079 + 5 * i : Nat) : Int) := by
    rw [show (2 : Int32) = jI 2 from rfl, jI_add]
    congr 1
    omega
  have tr := th_r (V := V) (L := L) (j := j) ru TR.b
  have Ra : RS9 x (x_i r0 (x + 65) (6077 + 5 * i) (jI sg)) (x_i r (x + 65) (6077 + 5 * i) (jI sg)) p g E d := R.w (by omega)
  have TRa : TpR x V L ru (x_i r0 (x + 65) (6077 + 5 * i) (jI sg)) := TR.w
  obtain ⟨r1, p1, a1, a2, a3, a4, a5⟩ := r_num TRa Ra hp hj
  have bx0 : x_b (jI ((6077 + 5 * i : Nat) : Int)) 6927 = true := jI_b (by omega) (by omega) (by omega)
  have bx1 : x_b (jI ((6078 + 5 * i : Nat) : Int)) 6927 = true := jI_b (by omega) (by omega) (by omega)
  have bx2 : x_b (jI ((6079 + 5 * i : Nat) : Int)) 6927 = true := jI_b (by omega) (by omega) (by omega)
  have l1 : (1000 : Int32) ≤ jI (th_ V L ru (tb_ V L j)) ↔ 1000 ≤ th_ V L ru (tb_ V L j) := jI_le (a := 1000) (by omega) (by omega) (by omega) (by omega)
  unfold f_X8_readLine_24 f_X12_readLine_51 f_X8_readLine_44 f_X8_readLine_89
  rw [c_here TC C jn, Option.bind_some, if_pos bx0, xl_, nat_ (show 6077 + 5 * i < 2147483648 by omega), if_pos bx0, gi_s, if_pos ((jge0 (by omega) (by omega)).mpr (by omega)), a1, Option.bind_some, e1, if_pos bx1, xl_, if_pos bx1, nat_ (show 6078 + 5 * i < 2147483648 by omega), gi_s]
  dsimp only
  by_cases t1 : th_ V L ru (tb_ V L j) < 1000
  · rw [if_neg (fun z => absurd (l1.mp z) (by omega)), if_pos t1, if_pos ((jge0 (by omega) (by omega)).mpr (by omega)), e2, if_pos bx2, xl_, nat_ (show 6079 + 5 * i < 2147483648 by omega)]
    obtain ⟨c1, f1, f2, f3⟩ := c_tak9 TC TR.b C jn (v := th_ V L ru (tb_ V L j)) (by omega) (by omega)
    have cond : th_ V L ru (tb_ V L j) = th_ V L ru (tb_ V L j) ∧ th_ V L ru (tb_ V L j) ≠ 1099 := ⟨rfl, by omega⟩
    rw [decide_eq_true cond] at f1
    rw [if_pos cond] at f2
    have jn1 := f3 cond
    rw [f1, Option.bind_some, if_neg b9t]
    dsimp only
    have Rb := a2.w (k := 6078 + 5 * i) (v := jI (th_ V L ru (tb_ V L j))) (by omega)
    have Rc := Rb.w (k := 6079 + 5 * i) (v := jI (-1)) (by omega)
    have TRc : TpR x V L ru (x_i (x_i (x_i r0 (x + 65) (6077 + 5 * i) (jI sg)) (x + 65) (6078 + 5 * i) (jI (th_ V L ru (tb_ V L j)))) (x + 65) (6079 + 5 * i) (jI (-1))) := TR.w.w.w
    have llc := ((ll.r (k := 6077 + 5 * i) (v := jI sg) (by omega)).r (k := 6078 + 5 * i) (v := jI (th_ V L ru (tb_ V L j))) (by omega)).r (k := 6079 + 5 * i) (v := jI (-1)) (by omega)
    have BFc : BF9 x c0 r0 c0 (x_i (x_i (x_i r0 (x + 65) (6077 + 5 * i) (jI sg)) (x + 65) (6078 + 5 * i) (jI (th_ V L ru (tb_ V L j)))) (x + 65) (6079 + 5 * i) (jI (-1))) := (BF9.r (by omega)).tr ((BF9.r (by omega)).tr (BF9.r (by omega)))
    obtain ⟨c2, g1, g2, g3⟩ := c_tak9 TC TR.b f2 jn1 (v := 1142) (by omega) (by omega)
    obtain ⟨r2, p2, h1, h2, h3, h4⟩ := r_sign TRc Rc a3 (a4 t1) (c := 42) (by omega) (by omega) (by decide) (by decide)
    rw [show f_X8_take x c1 1142 = _ from g1, Option.bind_some, m1_, show f_X12_sign x _ 42 = _ from h1, Option.bind_some]
    by_cases q : th_ V L ru (tb_ V L (j + 1)) = 1142
    · have q1 : th_ V L ru (tb_ V L (j + 1)) = 1142 ∧ (1142 : Int) ≠ 1099 := ⟨q, by omega⟩
      have q2 : th_ V L ru (tb_ V L (j + 1)) = 1100 + 42 := by omega
      rw [if_pos q1] at g2
      rw [if_pos q2] at h4
      have jn2 := g3 q1
      rw [decide_eq_true q1, decide_eq_true q2, if_neg b9t, if_neg b9t]
      dsimp only
      have tr3 := th_r (V := V) (L := L) (j := j + 1 + 1) ru TR.b
      have tf3 := (th_ft (V := V) (L := L) (j := j + 1 + 1) ru TR.b).1
      obtain ⟨r3, p3, k1, k2, k3, k4, k5, k6, k7, k8, k9, k10⟩ := r_word TRc h2 h3 h4
      rw [c_here TC g2 jn2, Option.bind_some, k1, Option.bind_some, k5, Option.bind_some, if_pos bx2, xl_, if_pos bx2, gi_s]
      have s0 : jI (th_ V L ru (tb_ V L (j + 1 + 1))) - 1000 = jI (th_ V L ru (tb_ V L (j + 1 + 1)) - 1000) := by rw [show (1000 : Int32) = jI 1000 from rfl, jI_sub]
      have s1 : jI (th_ V L ru (tb_ V L (j + 1 + 1)) - 1000) + 1000 = jI (th_ V L ru (tb_ V L (j + 1 + 1))) := by
        rw [show (1000 : Int32) = jI 1000 from rfl, jI_add]
        congr 1
        omega
      have s2 : (20 : Int32) ≤ jI (th_ V L ru (tb_ V L (j + 1 + 1)) - 1000) ↔ 20 ≤ th_ V L ru (tb_ V L (j + 1 + 1)) - 1000 := jI_le (a := 20) (by omega) (by omega) (by omega) (by omega)
      have Rd := k2.w (k := 6079 + 5 * i) (v := jI (fF9 (th_ V L ru (tb_ V L (j + 1 + 1))))) (by omega)
      rw [s0, s1]
      by_cases z : 1000 ≤ th_ V L ru (tb_ V L (j + 1 + 1)) ∧ th_ V L ru (tb_ V L (j + 1 + 1)) < 1020
      · have ef : fF9 (th_ V L ru (tb_ V L (j + 1 + 1))) = th_ V L ru (tb_ V L (j + 1 + 1)) - 1000 := if_pos z
        have tf := tf3 z.1 z.2
        obtain ⟨c3, m1, m2, m3⟩ := c_tak9 TC TR.b g2 jn2 (v := th_ V L ru (tb_ V L (j + 1 + 1))) (by omega) (by omega)
        have cond3 : th_ V L ru (tb_ V L (j + 1 + 1)) = th_ V L ru (tb_ V L (j + 1 + 1)) ∧ th_ V L ru (tb_ V L (j + 1 + 1)) ≠ 1099 := ⟨rfl, by omega⟩
        rw [decide_eq_true cond3] at m1
        rw [if_pos cond3] at m2
        rw [if_neg (fun y => absurd ((jlt0 (by omega) (by omega)).mp y) (by omega)), if_neg (fun y => absurd (s2.mp y) (by omega)), m1, Option.bind_some, if_neg b9t, if_pos ((jge0 (by omega) (by omega)).mpr (by omega))]
        rw [ef] at Rd ⊢
        obtain ⟨ok, c', r', c0', r0', y1, y2, y3, y4, y5⟩ := line91 (sg := sg) (nu := th_ V L ru (tb_ V L j)) (fa := th_ V L ru (tb_ V L (j + 1 + 1)) - 1000) TC (TRc.w (k := 6079 + 5 * i) (v := jI (th_ V L ru (tb_ V L (j + 1 + 1)) - 1000))) hi m2 Rd k3 (k8 (by omega) (by omega)).2 (m3 cond3) (by omega) (llc.r (by omega)) l0 (by rw [gi_k (by omega), gi_k (by omega), gi_k (by omega), gi_s]) (by rw [gi_k (by omega), gi_k (by omega), gi_s]) gi_s b1 ⟨by omega, by omega⟩ ⟨by omega, tf⟩
        refine ⟨ok, c', r', c0', r0', y1, y2, BFc.tr ((BF9.r (by omega)).tr y3), y4, fun w => ?_⟩
        obtain ⟨j', F, p', g', d', w1, w2, w3, w4, w5, w6, w7, w8, w9, w10⟩ := y5 w
        exact ⟨j', F, p', g', d', w1, w2, w3, w4, w5, w6, w7, w8, by omega, w10⟩
      · have ef : fF9 (th_ V L ru (tb_ V L (j + 1 + 1))) = -1 := if_neg z
        rw [ef] at Rd ⊢
        rw [if_neg (show ¬ (0 : Int32) ≤ jI (-1) by decide)]
        have fl : ∀ v : Option (Int32 × XH), (if jI (th_ V L ru (tb_ V L (j + 1 + 1)) - 1000) < (0 : Int32) then some ((0 : Int32), c2) else if (20 : Int32) ≤ jI (th_ V L ru (tb_ V L (j + 1 + 1)) - 1000) then some (0, c2) else v) = some (0, c2) := fun v => by
          by_cases y : th_ V L ru (tb_ V L (j + 1 + 1)) - 1000 < 0
          · rw [if_pos ((jlt0 (by omega) (by omega)).mpr y)]
          · rw [if_neg (fun u => y ((jlt0 (by omega) (by omega)).mp u)), if_pos (s2.mpr (by omega))]
        rw [fl]
        exact ⟨false, c2, _, c0, _, rfl, rfl, BFc.tr (BF9.r (by omega)), fun _ => ⟨j + 1 + 1, E, g2, jn2, by omega, p3, E, d, Rd⟩, fun w => absurd w (by decide)⟩
    · have q1 : ¬ (th_ V L ru (tb_ V L (j + 1)) = 1142 ∧ (1142 : Int) ≠ 1099) := fun z => q z.1
      have q2 : ¬ th_ V L ru (tb_ V L (j + 1)) = 1100 + 42 := by omega
      rw [if_neg q1] at g2
      rw [if_neg q2] at h4
      rw [decide_eq_false q1, decide_eq_false q2, if_pos b9f, if_pos b9f]
      obtain ⟨ok, c', r', c0', r0', y1, y2, y3, y4, y5⟩ := line91 (sg := sg) (nu := th_ V L ru (tb_ V L j)) (fa := -1) TC TRc hi g2 h2 h3 h4 jn1 (by omega) llc l0 (by rw [gi_k (by omega), gi_k (by omega), gi_s]) (by rw [gi_k (by omega), gi_s]) gi_s b1 ⟨by omega, by omega⟩ ⟨by omega, by cases ru <;> decide⟩
      refine ⟨ok, c', r', c0', r0', y1, y2, BFc.tr y3, y4, fun w => ?_⟩
      obtain ⟨j', F, p', g', d', w1, w2, w3, w4, w5, w6, w7, w8, w9, w10⟩ := y5 w
      exact ⟨j', F, p', g', d', w1, w2, w3, w4, w5, w6, w7, w8, by omega, w10⟩
  · have Rb := a2.w (k := 6078 + 5 * i) (v := jI (-1)) (by omega)
    rw [if_pos (l1.mpr (by omega)), if_neg t1, if_neg (show ¬ (0 : Int32) ≤ jI (-1) by decide)]
    exact ⟨false, c, _, c0, _, rfl, rfl, (BF9.r (by omega)).tr (BF9.r (by omega)), fun _ => ⟨j, E, C, jn, by omega, p1, E, d, Rb⟩, fun w => absurd w (by decide)⟩
theorem line9 {x L n i j : Nat} {V : Nat → Int} {ru : Bool} {c0 r0 c r : XH} {E : List (Int × Int)} {p g d : Nat} (TC : TkC x V L n ru c0) (TR : TpR x V L ru r0) (hi : i < 10) (C : CS9 x ru c0 c j E) (R : RS9 x r0 r p g E d) (hp : p ≤ L) (hj : re9_ V L b9_ p = tb_ V L j) (jn : j ≤ n) (le : E.length ≤ j) (ll : LL9 x ru i c0 r0 E) (l0 : i = 0 → E = []) :
    ∃ (ok : Bool) (c' r' c0' r0' : XH), f_X8_readLine x c = some (bb9 ok, c') ∧ f_X12_readLine x r (jI (i : Int)) = some (bb9 ok, r') ∧ BF9 x c0 r0 c0' r0' ∧ (ok = false → Fl9 x V L n ru c0' r0' c' r') ∧ (ok = true → ∃ j' F p' g' d', TkC x V L n ru c0' ∧ TpR x V L ru r0' ∧ CS9 x ru c0' c' j' (E ++ F) ∧ RS9 x r0' r' p' g' (E ++ F) d' ∧ p' ≤ L ∧ re9_ V L b9_ p' = tb_ V L j' ∧ j' ≤ n ∧ (E ++ F).length ≤ j' ∧ j + 1 ≤ j' ∧ LL9 x ru (i + 1) c0' r0' (E ++ F)) := by
  have n4 := TC.n4
  have tr := th_r (V := V) (L := L) (j := j) ru TR.b
  obtain ⟨c1, a1, a2, a3⟩ := c_tak9 TC TR.b C jn (v := 1040) (by omega) (by omega)
  obtain ⟨r1, q, k1, k2, k3, k4, k5, k6, k7, k8, k9, k10⟩ := r_word TR R hp hj
  have w0 := k7 0 (by omega)
  have w1 := k7 1 (by omega)
  have la : f_X12_lineAt r1 6 (jI (i : Int)) = jI ((6077 + 5 * i : Nat) : Int) := by
    unfold f_X12_lineAt f_X12_textAt
    rw [show (970 : Int32) + 851 * 6 + 1 = jI 6077 from by decide, show (5 : Int32) = jI 5 from rfl, jI_mul, jI_add]
    congr 1
  have v10 : ¬ jI (i : Int) = (10 : Int32) := fun z => absurd ((jI_eq (b := 10) (by omega) (by omega) (by omega) (by omega)).mp z) (by omega)
  unfold f_X8_readLine f_X12_readLine
  rw [show f_X8_take x c 1040 = _ from a1, Option.bind_some, k1, Option.bind_some, if_neg v10, show f_X12_isWord x r1 50 = _ from w0, Option.bind_some, la]
  by_cases t0 : th_ V L ru (tb_ V L j) = 1040
  · have q1 : th_ V L ru (tb_ V L j) = 1040 ∧ (1040 : Int) ≠ 1099 := ⟨t0, by omega⟩
    have q2 : th_ V L ru (tb_ V L j) = 1040 + ((0 : Nat) : Int) := by omega
    rw [if_pos q1] at a2
    rw [decide_eq_true q1, decide_eq_true q2, if_neg b9t, if_neg b9t]
    obtain ⟨ok, c', r', c0', r0', y1, y2, y3, y4, y5⟩ := line24 (sg := 0) TC TR hi a2 k2 k3 (k8 (by omega) (by omega)).2 (a3 q1) (by omega) ll l0 (.inl rfl)
    refine ⟨ok, c', r', c0', r0', y1, y2, y3, y4, fun w => ?_⟩
    obtain ⟨j', F, p', g', d', w1, w2, w3, w4, w5, w6, w7, w8, w9, w10⟩ := y5 w
    exact ⟨j', F, p', g', d', w1, w2, w3, w4, w5, w6, w7, w8, by omega, w10⟩
  · have q1 : ¬ (th_ V L ru (tb_ V L j) = 1040 ∧ (1040 : Int) ≠ 1099) := fun z => t0 z.1
    have q2 : ¬ th_ V L ru (tb_ V L j) = 1040 + ((0 : Nat) : Int) := by omega
    rw [if_neg q1] at a2
    rw [decide_eq_false q1, decide_eq_false q2, if_pos b9f, if_pos b9f]
    obtain ⟨c2, e1, e2, e3⟩ := c_tak9 TC TR.b a2 jn (v := 1041) (by omega) (by omega)
    dsimp only
    rw [show f_X8_take x c1 1041 = _ from e1, Option.bind_some, show f_X12_isWord x r1 51 = _ from w1, Option.bind_some]
    by_cases t1 : th_ V L ru (tb_ V L j) = 1041
    · have u1 : th_ V L ru (tb_ V L j) = 1041 ∧ (1041 : Int) ≠ 1099 := ⟨t1, by omega⟩
      have u2 : th_ V L ru (tb_ V L j) = 1040 + ((1 : Nat) : Int) := by omega
      rw [if_pos u1] at e2
      rw [decide_eq_true u1, decide_eq_true u2, if_neg b9t, if_neg b9t]
      obtain ⟨ok, c', r', c0', r0', y1, y2, y3, y4, y5⟩ := line24 (sg := 1) TC TR hi e2 k2 k3 (k8 (by omega) (by omega)).2 (e3 u1) (by omega) ll l0 (.inr rfl)
      refine ⟨ok, c', r', c0', r0', y1, y2, y3, y4, fun w => ?_⟩
      obtain ⟨j', F, p', g', d', w1, w2, w3, w4, w5, w6, w7, w8, w9, w10⟩ := y5 w
      exact ⟨j', F, p', g', d', w1, w2, w3, w4, w5, w6, w7, w8, by omega, w10⟩
    · have u1 : ¬ (th_ V L ru (tb_ V L j) = 1041 ∧ (1041 : Int) ≠ 1099) := fun z => t1 z.1
      have u2 : ¬ th_ V L ru (tb_ V L j) = 1040 + ((1 : Nat) : Int) := by omega
      rw [if_neg u1] at e2
      rw [decide_eq_false u1, decide_eq_false u2, if_pos b9f, if_pos b9f]
      have Ra := k2.w (k := 6077 + 5 * i) (v := jI (-1)) (by omega)
      have bx0 : x_b (jI ((6077 + 5 * i : Nat) : Int)) 6927 = true := jI_b (by omega) (by omega) (by omega)
      unfold f_X12_readLine_51
      rw [if_pos bx0, xl_, nat_ (show 6077 + 5 * i < 2147483648 by omega), if_pos bx0, gi_s, if_neg (show ¬ (0 : Int32) ≤ -1 by decide)]
      exact ⟨false, c2, _, c0, _, rfl, rfl, BF9.r (k := 6077 + 5 * i) (v := jI (-1)) (by omega), fun _ => ⟨j, E, e2, jn, by omega, q, E, d, Ra⟩, fun w => absurd w (by decide)⟩
