/-! ===== a line, in step ===== -/
theorem TpR.w {x L k : Nat} {V : Nat → Int} {ru : Bool} {h : XH} {v : Int32} (T : TpR x V L ru h) : TpR x V L ru (x_i h (x + 65) k v) :=
  ⟨by rw [gi_a (by omega)]; exact T.l, by rw [gi_a (by omega)]; exact T.r, T.L4, fun k hk => by rw [gi_a (by omega)]; exact T.v k hk, T.b⟩
theorem RS9.w {x : Nat} {h0 h : XH} {p g d k : Nat} {E : List (Int × Int)} {v : Int32} (R : RS9 x h0 h p g E d) (hk : k < 6127) : RS9 x (x_i h0 (x + 65) k v) (x_i h (x + 65) k v) p g E d :=
  ⟨fun a a1 a2 => by rw [gi_n a2, gi_n a2]; exact R.fr a a1 a2, R.f2, fun k k1 k2 k3 k4 => by rw [gi_a (by omega), gi_a (by omega)]; exact R.fm k k1 k2 k3 k4, fun q hq => by rw [gi_, gi_, R.fw q hq], by rw [gi_a (by omega)]; exact R.pt, by rw [gi_a (by omega)]; exact R.bg, by rw [gi_a (by omega)]; exact R.dp, by rw [gi_a (by omega)]; exact R.st, fun q hq => by rw [gi_k (by omega), gi_k (by omega)]; exact R.ev q hq, R.eb⟩
theorem CS9.w {x j a k : Nat} {ru : Bool} {h0 h : XH} {E : List (Int × Int)} {v : Int32} (C : CS9 x ru h0 h j E) (h1 : a ≠ x + 1) (h8 : a ≠ x + 8) : CS9 x ru (x_i h0 a k v) (x_i h a k v) j E :=
  ⟨fun b b1 b2 => by
    funext q
    rw [gi_, gi_, C.fr b b1 b2], C.f2, fun q q1 q2 => by rw [gi_a (Ne.symm h1), gi_a (Ne.symm h1)]; exact C.fm q q1 q2, by rw [gi_a (Ne.symm h1)]; exact C.at', by rw [gi_a (Ne.symm h1)]; exact C.st, fun q hq => by rw [gi_a (Ne.symm h8)]; exact C.ev q hq⟩
theorem CS9.w1 {x j k : Nat} {ru : Bool} {h0 h : XH} {E : List (Int × Int)} {v : Int32} (C : CS9 x ru h0 h j E) (h9 : k ≠ 9) (h11 : k ≠ 11) : CS9 x ru (x_i h0 (x + 1) k v) (x_i h (x + 1) k v) j E :=
  ⟨fun b b1 b2 => by rw [gi_n b1, gi_n b1]; exact C.fr b b1 b2, C.f2, fun q q1 q2 => by rw [gi_, gi_, C.fm q q1 q2], by rw [gi_k (Ne.symm h9)]; exact C.at', by rw [gi_k (Ne.symm h11)]; exact C.st, fun q hq => by rw [gi_a (by omega)]; exact C.ev q hq⟩
theorem TkC.w {x L n a k : Nat} {V : Nat → Int} {ru : Bool} {h : XH} {v : Int32} (T : TkC x V L n ru h) (h3 : a ≠ x + 3) (h4 : a ≠ x + 4) : TkC x V L n ru (x_i h a k v) :=
  ⟨fun j hj => by rw [gi_a (Ne.symm h3)]; exact T.t j hj, fun j hj => by rw [gi_a (Ne.symm h4)]; exact T.g j hj, T.n4, T.e, T.lt⟩
/-- a base changes in what a line writes alone -/
def BF9 (x : Nat) (c0 r0 c0' r0' : XH) : Prop := (∀ a, a ≠ x + 1 → a ≠ x + 5 → a ≠ x + 6 → a ≠ x + 7 → c0'.1 a = c0.1 a) ∧ c0'.2 = c0.2 ∧ (∀ k, k ≠ 10 → c0'.1 (x + 1) k = c0.1 (x + 1) k) ∧ (∀ a, a ≠ x + 65 → r0'.1 a = r0.1 a) ∧ r0'.2 = r0.2 ∧ ∀ k, k < 6077 → r0'.1 (x + 65) k = r0.1 (x + 65) k
theorem BF9.rf {x : Nat} {c0 r0 : XH} : BF9 x c0 r0 c0 r0 := ⟨fun _ _ _ _ _ => rfl, rfl, fun _ _ => rfl, fun _ _ => rfl, rfl, fun _ _ => rfl⟩
theorem BF9.tr {x : Nat} {c0 r0 c1 r1 c2 r2 : XH} (a : BF9 x c0 r0 c1 r1) (b : BF9 x c1 r1 c2 r2) : BF9 x c0 r0 c2 r2 :=
  ⟨fun q q1 q2 q3 q4 => (b.1 q q1 q2 q3 q4).trans (a.1 q q1 q2 q3 q4), b.2.1.trans a.2.1, fun k hk => (b.2.2.1 k hk).trans (a.2.2.1 k hk), fun q hq => (b.2.2.2.1 q hq).trans (a.2.2.2.1 q hq), b.2.2.2.2.1.trans a.2.2.2.2.1, fun k hk => (b.2.2.2.2.2 k hk).trans (a.2.2.2.2.2 k hk)⟩
theorem BF9.r {x k : Nat} {c0 r0 : XH} {v : Int32} (h : 6077 ≤ k) : BF9 x c0 r0 c0 (x_i r0 (x + 65) k v) := ⟨fun _ _ _ _ _ => rfl, rfl, fun _ _ => rfl, fun q hq => gi_n hq, rfl, fun q hq => gi_k (by omega)⟩
theorem BF9.c {x a k : Nat} {c0 r0 : XH} {v : Int32} (h : a = x + 5 ∨ a = x + 6 ∨ a = x + 7) : BF9 x c0 r0 (x_i c0 a k v) r0 := ⟨fun q q1 q2 q3 q4 => gi_n (by omega), rfl, fun q hq => gi_a (by omega), fun _ _ => rfl, rfl, fun _ _ => rfl⟩
theorem BF9.d {x : Nat} {c0 r0 : XH} {v : Int32} : BF9 x c0 r0 (x_i c0 (x + 1) 10 v) r0 := ⟨fun q q1 q2 q3 q4 => gi_n q1, rfl, fun q hq => gi_k hq, fun _ _ => rfl, rfl, fun _ _ => rfl⟩
def sg9 (E : List (Int × Int)) (a b : Nat) : List (Int × Int) := (E.drop a).take (b - a)
theorem sg9_a {E F : List (Int × Int)} {a b : Nat} (h : b ≤ E.length) : sg9 (E ++ F) a b = sg9 E a b := by
  unfold sg9
  by_cases c : a ≤ E.length
  · rw [List.drop_append_of_le_length c, List.take_append_of_le_length (by rw [List.length_drop]; omega)]
  · rw [show b - a = 0 by omega, List.take_zero, List.take_zero]
theorem sg9_n {E F : List (Int × Int)} : sg9 (E ++ F) E.length (E ++ F).length = F := by
  unfold sg9
  rw [List.drop_left, List.length_append, Nat.add_sub_cancel_left, List.take_length]
/-- the lines that are read -/
def LL9 (x : Nat) (ru : Bool) (i : Nat) (c0 r0 : XH) (E : List (Int × Int)) : Prop := c0.1 (x + 1) 10 = jI i ∧ ∀ k, k < i → ∃ (sg nu fa : Int) (a b : Nat), c0.1 (x + 5) k = jI (if sg = 0 then nu else -nu) ∧ c0.1 (x + 6) k = jI fa ∧ c0.1 (x + 7) k = jI b ∧ r0.1 (x + 65) (6077 + 5 * k) = jI sg ∧ r0.1 (x + 65) (6078 + 5 * k) = jI nu ∧ r0.1 (x + 65) (6079 + 5 * k) = jI fa ∧ r0.1 (x + 65) (6080 + 5 * k) = jI a ∧ r0.1 (x + 65) (6081 + 5 * k) = jI b ∧ (sg = 0 ∨ sg = 1) ∧ 0 ≤ nu ∧ nu ≤ 999 ∧ -1 ≤ fa ∧ fa < (if ru then 4 else 8) ∧ a ≤ b ∧ b ≤ E.length ∧ (k = 0 → a = 0) ∧ (1 ≤ k → r0.1 (x + 65) (6081 + 5 * (k - 1)) = jI a) ∧ (k + 1 = i → b = E.length) ∧ (a = b ∨ trL ru (sg9 E a b) [] = some [true])
theorem line91 {x L n i j : Nat} {V : Nat → Int} {ru : Bool} {c0 r0 c r : XH} {E : List (Int × Int)} {p g d : Nat} {sg nu fa : Int} (TC : TkC x V L n ru c0) (TR : TpR x V L ru r0) (hi : i < 10) (C : CS9 x ru c0 c j E) (R : RS9 x r0 r p g E d) (hp : p ≤ L) (hj : re9_ V L b9_ p = tb_ V L j) (jn : j ≤ n) (le : E.length + 2 ≤ j) (ll : LL9 x ru i c0 r0 E) (l0 : i = 0 → E = [])
    (s1 : r0.1 (x + 65) (6077 + 5 * i) = jI sg) (s2 : r0.1 (x + 65) (6078 + 5 * i) = jI nu) (s3 : r0.1 (x + 65) (6079 + 5 * i) = jI fa) (b1 : sg = 0 ∨ sg = 1) (b2 : 0 ≤ nu ∧ nu ≤ 999) (b3 : -1 ≤ fa ∧ fa < (if ru then 4 else 8)) :
    ∃ (ok : Bool) (c' r' c0' r0' : XH), f_X8_readLine_91 x c (bb9 (decide (sg = 0))) (jI nu) (jI fa) = some (bb9 ok, c') ∧ f_X12_readLine_135 x r (jI ((6077 + 5 * i : Nat) : Int)) = some (bb9 ok, r') ∧ BF9 x c0 r0 c0' r0' ∧ (ok = false → Fl9 x V L n ru c0' r0' c' r') ∧ (ok = true → ∃ j' F p' g' d', TkC x V L n ru c0' ∧ TpR x V L ru r0' ∧ CS9 x ru c0' c' j' (E ++ F) ∧ RS9 x r0' r' p' g' (E ++ F) d' ∧ p' ≤ L ∧ re9_ V L b9_ p' = tb_ V L j' ∧ j' ≤ n ∧ (E ++ F).length ≤ j' ∧ j ≤ j' ∧ LL9 x ru (i + 1) c0' r0' (E ++ F)) := by
  have n4 := TC.n4
  have e3 : jI ((6077 + 5 * i : Nat) : Int) + 3 = jI ((6080 + 5 * i : Nat) : Int) := by
    rw [show (3 : Int32) = jI 3 from rfl, jI_add]
    congr 1
    omega
  have e4 : jI ((6077 + 5 * i : Nat) : Int) + 4 = jI ((6081 + 5 * i : Nat) : Int) := by
    rw [show (4 : Int32) = jI 4 from rfl, jI_add]
    congr 1
    omega
  unfold f_X8_readLine_91 f_X12_readLine_135
  rw [e3, if_pos (jI_b (by omega) (by omega) (by omega)), xl_, xl_, nat_ (by omega), R.st]
  have R1 : RS9 x (x_i r0 (x + 65) (6080 + 5 * i) (jI (E.length : Int))) (x_i (x_i r (x + 65) (6080 + 5 * i) (jI (E.length : Int))) (x + 64) 9 (jI ((0 : Nat) : Int))) p g E 0 := (R.w (by omega)).dp' 0
  have TR1 : TpR x V L ru (x_i r0 (x + 65) (6080 + 5 * i) (jI (E.length : Int))) := TR.w
  obtain ⟨c1, a1, a2, a3⟩ := c_tak9 TC TR.b C jn (v := 1042) (by omega) (by omega)
  obtain ⟨r1, p1, f1, f2, f3, f4⟩ := r_pass TR1 R1 hp hj (i := 2) (by omega)
  rw [show f_X8_take x c 1042 = _ from a1, Option.bind_some, show f_X12_passes x (x_i (x_i r (x + 65) (6080 + 5 * i) (jI (E.length : Int))) (x + 64) 9 0) 64 = _ from f1, Option.bind_some]
  -- the end of a line
  have fin : ∀ (c2 r2 : XH) (j2 : Nat) (F : List (Int × Int)) (p2 g2 d2 : Nat), CS9 x ru c0 c2 j2 (E ++ F) → RS9 x (x_i r0 (x + 65) (6080 + 5 * i) (jI (E.length : Int))) r2 p2 g2 (E ++ F) d2 → p2 ≤ L → re9_ V L b9_ p2 = tb_ V L j2 → j2 ≤ n → (E ++ F).length ≤ j2 → j ≤ j2 → (F = [] ∨ trL ru F [] = some [true]) → ∃ (ok : Bool) (c' r' c0' r0' : XH), f_X8_readLine_111 x c2 (bb9 (decide (sg = 0))) (jI nu) (jI fa) = some (bb9 ok, c') ∧ f_X12_readLine_170 x r2 (jI ((6077 + 5 * i : Nat) : Int)) = some (bb9 ok, r') ∧ BF9 x c0 r0 c0' r0' ∧ (ok = false → Fl9 x V L n ru c0' r0' c' r') ∧ (ok = true → ∃ j' F p' g' d', TkC x V L n ru c0' ∧ TpR x V L ru r0' ∧ CS9 x ru c0' c' j' (E ++ F) ∧ RS9 x r0' r' p' g' (E ++ F) d' ∧ p' ≤ L ∧ re9_ V L b9_ p' = tb_ V L j' ∧ j' ≤ n ∧ (E ++ F).length ≤ j' ∧ j ≤ j' ∧ LL9 x ru (i + 1) c0' r0' (E ++ F)) := fun c2 r2 j2 F p2 g2 d2 C2 R2 hp2 hj2 jn2 le2 jj2 ty => by
    have e10 : c2.1 (x + 1) 10 = jI (i : Int) := by rw [C2.fm 10 (by omega) (by omega)]; exact ll.1
    have neg : (if bb9 (decide (sg = 0)) = 0 then -jI nu else jI nu) = jI (if sg = 0 then nu else -nu) := by
      rw [jI_neg]
      by_cases z : sg = 0
      · rw [decide_eq_true z, if_neg b9t, if_pos z]
      · rw [decide_eq_false z, if_pos b9f, if_neg z]
    unfold f_X8_readLine_111 f_X12_readLine_170
    rw [e10, if_pos (jI_b (by omega) (by omega) (by omega)), xl_, neg, nat_ (by omega), gi_a (show x + 1 ≠ x + 5 by omega), e10, if_pos (jI_b (by omega) (by omega) (by omega)), xl_, nat_ (by omega), gi_a (show x + 1 ≠ x + 6 by omega), gi_a (show x + 1 ≠ x + 5 by omega), e10, if_pos (jI_b (by omega) (by omega) (by omega)), xl_, nat_ (by omega), gi_a (show x + 1 ≠ x + 6 by omega), gi_a (show x + 1 ≠ x + 5 by omega), C2.st, xl_, gi_a (show x + 1 ≠ x + 7 by omega), gi_a (show x + 1 ≠ x + 6 by omega), gi_a (show x + 1 ≠ x + 5 by omega), e10, jI_s i, e4, if_pos (jI_b (by omega) (by omega) (by omega)), nat_ (by omega), xl_, R2.st]
    refine ⟨true, _, _, x_i (x_i (x_i (x_i c0 (x + 5) i (jI (if sg = 0 then nu else -nu))) (x + 6) i (jI fa)) (x + 7) i (jI ((E ++ F).length : Int))) (x + 1) 10 (jI ((i + 1 : Nat) : Int)), x_i (x_i r0 (x + 65) (6080 + 5 * i) (jI (E.length : Int))) (x + 65) (6081 + 5 * i) (jI ((E ++ F).length : Int)), rfl, rfl, (BF9.c (.inl rfl)).tr ((BF9.c (.inr (.inl rfl))).tr ((BF9.c (.inr (.inr rfl))).tr (BF9.d.tr ((BF9.r (by omega)).tr (BF9.r (by omega)))))), fun z => absurd z (by decide), fun _ => ⟨j2, F, p2, g2, d2, (((TC.w (by omega) (by omega)).w (by omega) (by omega)).w (by omega) (by omega)).w (by omega) (by omega), TR.w.w, (((C2.w (by omega) (by omega)).w (by omega) (by omega)).w (by omega) (by omega)).w1 (by omega) (by omega), R2.w (by omega), hp2, hj2, jn2, le2, jj2, gi_s, fun k hk => ?_⟩⟩
    by_cases ki : k = i
    · subst ki
      refine ⟨sg, nu, fa, E.length, (E ++ F).length, ?_, ?_, ?_, ?_, ?_, ?_, ?_, ?_, b1, b2.1, b2.2, b3.1, b3.2, ?_, Nat.le_refl _, ?_, ?_, fun _ => rfl, ?_⟩
      · rw [gi_a (by omega), gi_a (by omega), gi_a (by omega), gi_s]
      · rw [gi_a (by omega), gi_a (by omega), gi_s]
      · rw [gi_a (by omega), gi_s]
      · rw [gi_k (by omega), gi_k (by omega)]; exact s1
      · rw [gi_k (by omega), gi_k (by omega)]; exact s2
      · rw [gi_k (by omega), gi_k (by omega)]; exact s3
      · rw [gi_k (by omega), gi_s]
      · exact gi_s
      · rw [List.length_append]; omega
      · intro z
        rw [l0 z]
        rfl
      · intro z
        rw [gi_k (by omega), gi_k (by omega)]
        obtain ⟨_, _, _, a', b', _, _, _, _, _, _, _, q8, _, _, _, _, _, _, _, _, _, q9, _⟩ := ll.2 (k - 1) (by omega)
        rw [q8, q9 (by omega)]
      · rcases ty with ty | ty
        · left
          rw [ty, List.append_nil]
        · right
          rw [sg9_n]
          exact ty
    · obtain ⟨sg', nu', fa', a', b', q1, q2, q3, q4, q5, q6, q7, q8, q9, q10, q11, q12, q13, q14, q15, q16, q17, q18, q19⟩ := ll.2 k (by omega)
      refine ⟨sg', nu', fa', a', b', ?_, ?_, ?_, ?_, ?_, ?_, ?_, ?_, q9, q10, q11, q12, q13, q14, by rw [List.length_append]; omega, q16, fun z => ?_, fun z => absurd z (by omega), by rw [sg9_a q15]; exact q19⟩
      · rw [gi_a (by omega), gi_a (by omega), gi_a (by omega), gi_k ki]; exact q1
      · rw [gi_a (by omega), gi_a (by omega), gi_k ki, gi_a (by omega)]; exact q2
      · rw [gi_a (by omega), gi_k ki, gi_a (by omega), gi_a (by omega)]; exact q3
      · rw [gi_k (by omega), gi_k (by omega)]; exact q4
      · rw [gi_k (by omega), gi_k (by omega)]; exact q5
      · rw [gi_k (by omega), gi_k (by omega)]; exact q6
      · rw [gi_k (by omega), gi_k (by omega)]; exact q7
      · rw [gi_k (by omega), gi_k (by omega)]; exact q8
      · rw [gi_k (by omega), gi_k (by omega)]; exact q17 z
  by_cases q : th_ V L ru (tb_ V L j) = 1042
  · have q1 : th_ V L ru (tb_ V L j) = 1042 ∧ (1042 : Int) ≠ 1099 := ⟨q, by omega⟩
    have q2 : th_ V L ru (tb_ V L j) = 1040 + ((2 : Nat) : Int) := by omega
    rw [if_pos q1] at a2
    rw [if_pos q2] at f4
    have jn1 := a3 q1
    rw [decide_eq_true q1, decide_eq_true q2, if_neg b9t, if_neg b9t]
    dsimp only
    obtain ⟨ok1, c2, r2, d1, d2, d3, d4⟩ := cond9 TC TR1 (c := c1) (r := r1) (j := j + 1) (E := E) ⟨a2, ⟨p1, _, f2, f3, f4⟩, jn1, by omega⟩
    rw [show f_X8_readEither (f_X8_readAtom x 8) x c1 0 = _ from d1, Option.bind_some, d2, Option.bind_some]
    cases ok1
    · rw [if_pos b9f, if_pos b9f]
      exact ⟨false, c2, r2, c0, _, rfl, rfl, BF9.r (by omega), fun _ => d3 rfl, fun z => absurd z (by decide)⟩
    · obtain ⟨j1, F, u1, u2, u3⟩ := d4 rfl
      obtain ⟨p2, g2, R2, hp2, hj2⟩ := u1.R
      have le2 := u1.le
      rw [if_neg b9t, if_neg b9t]
      exact fin c2 r2 j1 F p2 g2 0 u1.C R2 hp2 hj2 u1.jn (by omega) (by omega) (.inr (u3 [] (by show 0 ≤ 0; omega)))
  · have q1 : ¬ (th_ V L ru (tb_ V L j) = 1042 ∧ (1042 : Int) ≠ 1099) := fun z => q z.1
    have q2 : ¬ th_ V L ru (tb_ V L j) = 1040 + ((2 : Nat) : Int) := by omega
    rw [if_neg q1] at a2
    rw [if_neg q2] at f4
    rw [decide_eq_false q1, decide_eq_false q2, if_pos b9f, if_pos b9f]
    exact fin c1 r1 j [] p1 _ 0 (by rw [List.append_nil]; exact a2) (by rw [List.append_nil]; exact f2) f3 f4 jn (by rw [List.append_nil]; omega) (by omega) (.inl rfl)
