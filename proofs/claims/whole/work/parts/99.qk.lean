/-! ===== all lines, in step ===== -/
theorem th_sg {V : Nat → Int} {L j : Nat} (ru : Bool) (hb : ∀ k, k < L → 0 ≤ V k ∧ V k < 256) {c : Int} (c1 : 33 ≤ c) (c3 : l9_ c = false) (c4 : d9_ c = false) : (tb_ V L j < L ∧ c ≤ V (tb_ V L j) ∧ V (tb_ V L j) ≤ c) ↔ th_ V L ru (tb_ V L j) = 1100 + c := by
  rcases th_k (V := V) (L := L) (j := j) ru hb with ⟨k1, k2, -⟩ | ⟨k1, k2, k3, k4, -⟩ | ⟨k1, k2, k3, -, -, -, k4⟩ | ⟨k1, k2, k3, k4, k5, -⟩
  · rw [k2]
    omega
  · have w := wc_f (V := V) (p := tb_ V L j) (m := te_ V L (tb_ V L j) - tb_ V L j) ru
    rw [k4]
    constructor
    · intro q
      rw [show V (tb_ V L j) = c by omega, c3] at k2
      exact absurd k2 (by decide)
    · intro q
      omega
  · constructor
    · intro q
      rw [show V (tb_ V L j) = c by omega, c4] at k3
      exact absurd k3 (by decide)
    · intro q
      omega
  · rw [k5]
    omega
theorem TkC.bf {x L n : Nat} {V : Nat → Int} {ru : Bool} {c0 r0 c0' r0' : XH} (T : TkC x V L n ru c0) (B : BF9 x c0 r0 c0' r0') : TkC x V L n ru c0' :=
  ⟨fun j hj => by rw [B.1 _ (by omega) (by omega) (by omega) (by omega)]; exact T.t j hj, fun j hj => by rw [B.1 _ (by omega) (by omega) (by omega) (by omega)]; exact T.g j hj, T.n4, T.e, T.lt⟩
theorem rd120 {x L n j : Nat} {V : Nat → Int} {ru : Bool} {c0 c : XH} {E : List (Int × Int)} (TC : TkC x V L n ru c0) (C : CS9 x ru c0 c j E) (jn : j ≤ n) : f_X8_read_120 x c = some (1, x_i c (x + 1) 8 (jI ((tb_ V L j : Nat) : Int))) := by
  have n4 := TC.n4
  unfold f_X8_read_120
  rw [C.at', if_pos (jI_b (by omega) (by omega) (by omega)), nat_ (by omega), C.fr _ (by omega) (by omega), TC.g j jn, xl_]
/-- once it is wrong, it ends -/
theorem rd_bad {x L n j : Nat} {V : Nat → Int} {ru : Bool} {c0 c : XH} {E : List (Int × Int)} {m : Nat} {v3 : Int32} {k : Int32} (TC : TkC x V L n ru c0) (C : CS9 x ru c0 c j E) (jn : j ≤ n) : f_X8_read_46 x (m + 1) c 0 v3 k = some (1, x_i c (x + 1) 8 (jI ((tb_ V L j : Nat) : Int))) := by
  have e : f_X8_read_112 x c 0 v3 = some (1, x_i c (x + 1) 8 (jI ((tb_ V L j : Nat) : Int))) := by
    unfold f_X8_read_112
    rw [if_pos rfl, rd120 TC C jn]
  rw [f_X8_read_46, if_pos (show (0 : Int32) = 0 from rfl), e, ite_self]
theorem rd_end {x : Nat} {c : XH} {m : Nat} {k : Int32} : f_X8_read_46 x (m + 1) c 1 0 k = some (0, x_i c (x + 1) 8 (jI (-1))) := by
  have e : f_X8_read_112 x c 1 0 = some (0, x_i c (x + 1) 8 (jI (-1))) := by
    unfold f_X8_read_112
    rw [if_neg (show ¬ (1 : Int32) = 0 by decide), if_pos rfl, xl_, m1_]
  rw [f_X8_read_46, if_neg (show ¬ (1 : Int32) = 0 by decide), if_pos (show (0 : Int32) = 0 from rfl), e, ite_self]
theorem loop9 {x L n : Nat} {V : Nat → Int} {ru : Bool} : ∀ (K k m m' j : Nat) (E : List (Int × Int)) (c r c0 r0 : XH) (p g d : Nat), k + K = 10 → K + 2 ≤ m → K + 1 ≤ m' → TkC x V L n ru c0 → TpR x V L ru r0 → CS9 x ru c0 c j E → RS9 x r0 r p g E d → p ≤ L → re9_ V L b9_ p = tb_ V L j → j ≤ n → E.length ≤ j → LL9 x ru k c0 r0 E → (k = 0 → E = []) →
    ∃ c0' r0' c' r', BF9 x c0 r0 c0' r0' ∧ ((∃ jf Ef pf Ef' df, f_X8_read_46 x m c 1 1 (jI (k : Int)) = some (1, x_i c' (x + 1) 8 (jI ((tb_ V L jf : Nat) : Int))) ∧ f_X12_readAll_19 x m' r (jI (k : Int)) = some (jI (-1), r') ∧ CS9 x ru c0' c' jf Ef ∧ RS9 x r0' r' pf (tb_ V L jf) Ef' df) ∨ (∃ (i' : Nat) (jf : Nat) (Ef : List (Int × Int)) (pf gf df : Nat), f_X8_read_46 x m c 1 1 (jI (k : Int)) = some (0, x_i c' (x + 1) 8 (jI (-1))) ∧ f_X12_readAll_19 x m' r (jI (k : Int)) = some (jI (i' : Int), r') ∧ i' ≤ 10 ∧ CS9 x ru c0' c' jf Ef ∧ RS9 x r0' r' pf gf Ef df ∧ Ef.length ≤ 400 ∧ LL9 x ru i' c0' r0' Ef)) := by
  intro K
  induction K with
  | zero =>
    intro k m m' j E c r c0 r0 p g d hk hm hm' TC TR C R hp hj jn le ll l0
    obtain ⟨m, rfl⟩ : ∃ q, m = q + 1 := ⟨m - 1, by omega⟩
    obtain ⟨m', rfl⟩ : ∃ q, m' = q + 1 := ⟨m' - 1, by omega⟩
    have k10 : k = 10 := by omega
    subst k10
    obtain ⟨r1, q, k1, k2, -⟩ := r_word TR R hp hj
    refine ⟨c0, r0, c, r1, BF9.rf, .inl ⟨j, E, q, E, d, ?_, ?_, C, k2⟩⟩
    · rw [f_X8_read_46, if_pos (by decide)]
      unfold f_X8_read_112
      rw [if_neg (show ¬ (1 : Int32) = 0 by decide), if_neg (show ¬ (1 : Int32) = 0 by decide), rd120 TC C jn]
    · rw [f_X12_readAll_19]
      unfold f_X12_readLine
      rw [k1, Option.bind_some, if_pos (by decide), Option.bind_some, if_pos rfl, m1_]
  | succ K ih =>
    intro k m m' j E c r c0 r0 p g d hk hm hm' TC TR C R hp hj jn le ll l0
    obtain ⟨m, rfl⟩ : ∃ q, m = q + 2 := ⟨m - 2, by omega⟩
    obtain ⟨m', rfl⟩ : ∃ q, m' = q + 1 := ⟨m' - 1, by omega⟩
    have n4 := TC.n4
    have L4 := TR.L4
    obtain ⟨ok, c1, r1, c01, r01, a1, a2, a3, a4, a5⟩ := line9 TC TR (i := k) (by omega) C R hp hj jn le ll l0
    have TC1 := TC.bf a3
    rw [f_X8_read_46, if_neg (show ¬ (10 : Int32) ≤ jI (k : Int) from fun q => absurd ((jI_le (a := 10) (by omega) (by omega) (by omega) (by omega)).mp q) (by omega)), if_neg (show ¬ (1 : Int32) = 0 by decide), if_neg (show ¬ (1 : Int32) = 0 by decide), a1, Option.bind_some, f_X12_readAll_19, a2, Option.bind_some]
    unfold f_X8_read_104 f_X8_read_100 f_X8_read_105
    cases ok
    · obtain ⟨jf, Ef, y1, y2, y3, pf, Ef', df, y4⟩ := a4 rfl
      rw [if_pos b9f]
      dsimp only
      rw [c_here TC1 y1 y2, Option.bind_some, xl_, if_pos b9f]
      refine ⟨c01, r01, c1, r1, a3, .inl ⟨jf, Ef, pf, Ef', df, ?_, by rw [m1_], y1, y4⟩⟩
      exact rd_bad TC1 y1 y2
    · obtain ⟨j', F, p', g', d', w1, w2, w3, w4, w5, w6, w7, w8, w9, w10⟩ := a5 rfl
      have tr := th_r (V := V) (L := L) (j := j') ru TR.b
      have bl := tb_L (V := V) (L := L) j'
      obtain ⟨r2, b1, b2⟩ := r_bla w2 _ p' g' r1 rfl w5 w4
      rw [w6] at b2
      have e7 : r2.1 (x + 64) 7 = jI L := by rw [b2.fm 7 (by omega) (by omega) (by omega) (by omega)]; exact w2.l
      have e6 : jI ((tb_ V L j' : Nat) : Int) = jI (L : Int) ↔ tb_ V L j' = L := by
        rw [jI_eq (by omega) (by omega) (by omega) (by omega)]
        omega
      have e99 : jI (th_ V L ru (tb_ V L j')) = (1099 : Int32) ↔ th_ V L ru (tb_ V L j') = 1099 := jI_eq (b := 1099) (by omega) (by omega) (by omega) (by omega)
      rw [if_neg b9t]
      dsimp only
      rw [c_here w1 w3 w7, Option.bind_some, xl_, if_neg b9t, b1, Option.bind_some, b2.pt, e7]
      by_cases t : th_ V L ru (tb_ V L j') = 1099
      · rw [if_pos (e99.mpr t), if_pos rfl, if_pos (e6.mpr (tr.2.2.mp t)), jI_s k]
        refine ⟨c01, r01, c1, r2, a3, .inr ⟨k + 1, j', E ++ F, _, _, d', rd_end, rfl, by omega, w3, b2, by omega, w10⟩⟩
      · have ia := r_isAt w2 b2 bl (lo := 59) (hi := 59) (by omega) (by omega) (by omega)
        have sg := th_sg (V := V) (L := L) (j := j') ru TR.b (c := 59) (by omega) (by decide) (by decide)
        obtain ⟨c2, f1, f2, f3⟩ := c_tak9 w1 TR.b w3 w7 (v := 1159) (by omega) (by omega)
        rw [if_neg (fun z => t (e99.mp z)), if_neg (show ¬ (1 : Int32) = 0 by decide), if_neg (fun z => t (tr.2.2.mpr (e6.mp z))), show f_X8_take x c1 1159 = _ from f1, Option.bind_some, xl_, show f_X12_isAt x r2 59 59 = _ from ia, Option.bind_some, bbi, jI_s k]
        by_cases q : th_ V L ru (tb_ V L j') = 1159
        · have q1 : th_ V L ru (tb_ V L j') = 1159 ∧ (1159 : Int) ≠ 1099 := ⟨q, by omega⟩
          have q2 := sg.mpr (show th_ V L ru (tb_ V L j') = 1100 + 59 by omega)
          rw [if_pos q1] at f2
          rw [decide_eq_true q1, decide_eq_true q2, if_neg b9t, xl_, jI_s (tb_ V L j')]
          have jn2 := f3 q1
          have te := te_b (V := V) (L := L) (p := tb_ V L j') q2.1
          have et : te_ V L (tb_ V L j') = tb_ V L j' + 1 := by
            rcases th_k (V := V) (L := L) (j := j') ru TR.b with ⟨k1, k2, -⟩ | ⟨k1, k2, k3, k4, -⟩ | ⟨k1, k2, k3, -, -, -, k4⟩ | ⟨k1, k2, k3, k4, k5, k6, k7, k8⟩
            · omega
            · have w := wc_f (V := V) (p := tb_ V L j') (m := te_ V L (tb_ V L j') - tb_ V L j') ru
              omega
            · omega
            · exact k8
          obtain ⟨c02, r02, c3, r3, z1, z2⟩ := ih (k + 1) (m + 1) m' (j' + 1) (E ++ F) c2 (x_i r2 (x + 64) 6 (jI ((tb_ V L j' + 1 : Nat) : Int))) c01 r01 (tb_ V L j' + 1) _ d' (by omega) (by omega) (by omega) w1 w2 f2 (b2.mv (tb_ V L j' + 1)) (by omega) (by rw [← et]; rfl) jn2 (by omega) w10 (fun z => absurd z (by omega))
          exact ⟨c02, r02, c3, r3, a3.tr z1, z2⟩
        · have q1 : ¬ (th_ V L ru (tb_ V L j') = 1159 ∧ (1159 : Int) ≠ 1099) := fun z => q z.1
          have q2 : ¬ (tb_ V L j' < L ∧ 59 ≤ V (tb_ V L j') ∧ V (tb_ V L j') ≤ 59) := fun z => q (by have := sg.mp z; omega)
          rw [if_neg q1] at f2
          rw [decide_eq_false q1, decide_eq_false q2, if_pos b9f]
          refine ⟨c01, r01, c2, r2, a3, .inl ⟨j', E ++ F, _, _, d', ?_, by rw [m1_], f2, b2⟩⟩
          exact rd_bad w1 f2 w7
