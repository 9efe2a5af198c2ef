/-! ===== sums, in step ===== -/
def e9_ (t : Int) : Int × Int := if t < 1000 then (10, t) else (t - 1000, 0)
theorem th_ft {V : Nat → Int} {L j : Nat} (ru : Bool) (hb : ∀ k, k < L → 0 ≤ V k ∧ V k < 256) : (1000 ≤ th_ V L ru (tb_ V L j) → th_ V L ru (tb_ V L j) < 1020 → th_ V L ru (tb_ V L j) - 1000 < (if ru then 4 else 8)) ∧ (1020 ≤ th_ V L ru (tb_ V L j) → th_ V L ru (tb_ V L j) < 1040 → 8 ≤ gG9 ru (th_ V L ru (tb_ V L j)) ∧ gG9 ru (th_ V L ru (tb_ V L j)) < (if ru then 9 else 10)) := by
  rcases th_k (V := V) (L := L) (j := j) ru hb with ⟨k1, k2, k3, k9⟩ | ⟨k1, k2, k3, k4, k5, k6, k7⟩ | ⟨k1, k2, k3, k5, k6, k7, k4⟩ | ⟨k1, k2, k3, k4, k5, k6, k7, k8⟩
  · omega
  · have w := wc_f (V := V) (p := tb_ V L j) (m := te_ V L (tb_ V L j) - tb_ V L j) ru
    obtain ⟨c1, c2, c3, c4, c5, c6⟩ := wcat (V := V) (p := tb_ V L j) (m := te_ V L (tb_ V L j) - tb_ V L j) ru
    rw [← k4] at w
    obtain ⟨w1, w2, -⟩ := w
    generalize th_ V L ru (tb_ V L j) = t at *
    refine ⟨fun a b => ?_, fun a b => ?_⟩
    · have e : fF9 t = t - 1000 := if_pos ⟨a, b⟩
      rw [e] at w1
      rcases c2 with c2 | c2
      · omega
      · rw [← w1] at c2
        exact c2.2
    · have e : gG9 ru t = t - 1020 - (if ru then 4 else 8) + 8 := if_pos ⟨a, b⟩
      have f1 : fF9 t = -1 := if_neg (by omega)
      by_cases z : iN_ V (tb_ V L j) (te_ V L (tb_ V L j) - tb_ V L j) (gs9_ ru) 0 = -1
      · exfalso
        have k4' : t = if iN_ V (tb_ V L j) (te_ V L (tb_ V L j) - tb_ V L j) KW 0 = -1 then (if iN_ V (tb_ V L j) (te_ V L (tb_ V L j) - tb_ V L j) (fs_ ru) 0 = -1 then (if iN_ V (tb_ V L j) (te_ V L (tb_ V L j) - tb_ V L j) (gs9_ ru) 0 = -1 then 1098 else 1020 + (if ru = true then 4 else 8) + iN_ V (tb_ V L j) (te_ V L (tb_ V L j) - tb_ V L j) (gs9_ ru) 0) else 1000 + iN_ V (tb_ V L j) (te_ V L (tb_ V L j) - tb_ V L j) (fs_ ru) 0) else 1040 + iN_ V (tb_ V L j) (te_ V L (tb_ V L j) - tb_ V L j) KW 0 := k4
        rw [if_pos z, ← w1, f1, if_pos rfl] at k4'
        split at k4' <;> omega
      · rw [if_neg z] at w2
        rcases c3 with c3 | c3
        · exact absurd c3 z
        · cases ru
          · simp only [Bool.false_eq_true, if_false] at c3 ⊢
            omega
          · simp only [if_true] at c3 ⊢
            omega
  · omega
  · have := hb _ k1
    omega
theorem mu_e9 {ru : Bool} {t : Int} (h0 : 0 ≤ t) (h1 : t < 1020) (h2 : 1000 ≤ t → t - 1000 < (if ru then 4 else 8)) : mu_ ru (e9_ t).1 (e9_ t).2 = t := by
  unfold e9_
  by_cases c : t < 1000
  · rw [if_pos c]
    rfl
  · have h3 := h2 (by omega)
    have h4 : t - 1000 < 8 := by cases ru <;> simp at h3 <;> omega
    rw [if_neg c]
    unfold mu_
    rw [if_neg (show ¬ t - 1000 = 10 by omega), if_pos (show t - 1000 < 10 by omega), if_neg (by omega)]
    omega
theorem ts_e9 {ru : Bool} {t : Int} (h0 : 0 ≤ t) (h1 : t < 1020) (h2 : 1000 ≤ t → t - 1000 < (if ru then 4 else 8)) {T : List Bool} (hT : T.length ≤ 16) : trL ru [e9_ t] T = some (false :: T) := by
  have e : ts_ ru (e9_ t).1 (e9_ t).2 T = some (false :: T) := by
    unfold e9_
    by_cases c : t < 1000
    · rw [if_pos c]
      unfold ts_
      rw [if_pos rfl, if_pos ⟨h0, c, by omega⟩]
    · have h3 := h2 (by omega)
      rw [if_neg c]
      unfold ts_
      have h4 : t - 1000 < 8 := by cases ru <;> simp at h3 <;> omega
      rw [if_neg (show ¬ t - 1000 = 10 by omega), if_pos ⟨by omega, h3⟩, if_pos (by omega)]
  show Option.bind (ts_ ru (e9_ t).1 (e9_ t).2 T) (fun T' => some T') = _
  rw [e]
  rfl
theorem r_part {x L : Nat} {V : Nat → Int} {ru : Bool} {h0 h : XH} {E : List (Int × Int)} {d p g j : Nat} (T : TpR x V L ru h0) (R : RS9 x h0 h p g E d) (hp : p ≤ L) (hj : re9_ V L b9_ p = tb_ V L j) (hE : E.length < 400) :
    ∃ h' p', f_X12_readPart x h = some (bb9 (decide (th_ V L ru (tb_ V L j) < 1020)), h') ∧ p' ≤ L ∧ (th_ V L ru (tb_ V L j) < 1020 → RS9 x h0 h' p' (tb_ V L j) (E ++ [e9_ (th_ V L ru (tb_ V L j))]) d ∧ re9_ V L b9_ p' = tb_ V L (j + 1)) ∧ (¬ th_ V L ru (tb_ V L j) < 1020 → ∃ E', RS9 x h0 h' p' (tb_ V L j) E' d) := by
  have L4 := T.L4
  have bl := tb_L (V := V) (L := L) j
  have tr := th_r (V := V) (L := L) (j := j) ru T.b
  obtain ⟨h1, q, a1, a2, a3, a4, a5, a6, a7, a8, a9, a10⟩ := r_word T R hp hj
  have e1 : jI (q : Int) = jI ((tb_ V L j : Nat) : Int) ↔ q = tb_ V L j := by
    rw [jI_eq (by omega) (by omega) (by omega) (by omega)]
    omega
  unfold f_X12_readPart
  rw [a1, Option.bind_some, a2.pt, a2.bg]
  have neg1 : ∀ v : Int, -2147483648 ≤ v → v < 2147483648 → (if jI v < (0 : Int32) then (0 : Int32) else 1) = bb9 (decide (0 ≤ v)) := fun v b1 b2 => by
    by_cases c : v < 0
    · rw [if_pos ((jlt0 b1 b2).mpr c), decide_eq_false (by omega)]
      rfl
    · rw [if_neg (fun z => c ((jlt0 b1 b2).mp z)), decide_eq_true (by omega)]
      rfl
  by_cases hq : q = tb_ V L j
  · have nw : th_ V L ru (tb_ V L j) < 1000 ∨ 1098 ≤ th_ V L ru (tb_ V L j) := by
      by_cases z : 1000 ≤ th_ V L ru (tb_ V L j) ∧ th_ V L ru (tb_ V L j) < 1098
      · exact absurd hq (a8 z.1 z.2).1
      · omega
    rw [if_pos (e1.mpr hq)]
    obtain ⟨h2, p2, b1, b2, b3, b4, b5⟩ := r_num T a2 a3 (j := j) (by rw [hq]; exact a10)
    obtain ⟨h3, c1, c2⟩ := r_em b2 hE 10 (if th_ V L ru (tb_ V L j) < 1000 then th_ V L ru (tb_ V L j) else -1) ⟨by omega, by omega⟩ ⟨by split <;> omega, by split <;> omega⟩
    rw [b1, Option.bind_some]
    dsimp only
    rw [show f_X12_emits x h2 10 (jI (if th_ V L ru (tb_ V L j) < 1000 then th_ V L ru (tb_ V L j) else -1)) = _ from c1, Option.bind_some]
    rw [neg1 _ (by split <;> omega) (by split <;> omega)]
    refine ⟨h3, p2, ?_, b3, fun z => ⟨?_, b4 (by omega)⟩, fun _ => ⟨_, c2⟩⟩
    · congr 3
      by_cases z : th_ V L ru (tb_ V L j) < 1000
      · rw [if_pos z, decide_eq_true (by omega), decide_eq_true (by omega)]
      · rw [if_neg z, decide_eq_false (by omega), decide_eq_false (by omega)]
    · have e : e9_ (th_ V L ru (tb_ V L j)) = (10, if th_ V L ru (tb_ V L j) < 1000 then th_ V L ru (tb_ V L j) else -1) := by
        unfold e9_
        rw [if_pos (by omega), if_pos (by omega)]
      rw [e]
      exact c2
  · have yw : 1000 ≤ th_ V L ru (tb_ V L j) ∧ th_ V L ru (tb_ V L j) ≤ 1098 := by
      by_cases z : th_ V L ru (tb_ V L j) < 1000 ∨ 1099 ≤ th_ V L ru (tb_ V L j)
      · exact absurd (a9 z) hq
      · omega
    rw [if_neg (fun z => hq (e1.mp z)), a5, Option.bind_some]
    have fb : -1 ≤ fF9 (th_ V L ru (tb_ V L j)) ∧ fF9 (th_ V L ru (tb_ V L j)) < 20 ∧ (0 ≤ fF9 (th_ V L ru (tb_ V L j)) ↔ th_ V L ru (tb_ V L j) < 1020) := by
      unfold fF9
      split <;> omega
    obtain ⟨h3, c1, c2⟩ := r_em a2 hE (fF9 (th_ V L ru (tb_ V L j))) 0 ⟨by omega, by omega⟩ ⟨by omega, by omega⟩
    rw [show f_X12_emits x h1 (jI (fF9 (th_ V L ru (tb_ V L j)))) 0 = _ from c1, Option.bind_some, neg1 _ (by omega) (by omega)]
    refine ⟨h3, q, ?_, a3, fun z => ⟨?_, (a8 yw.1 (by omega)).2⟩, fun _ => ⟨_, c2⟩⟩
    · congr 3
      rw [Bool.eq_iff_iff, decide_eq_true_iff, decide_eq_true_iff]
      exact fb.2.2
    · have e : e9_ (th_ V L ru (tb_ V L j)) = (fF9 (th_ V L ru (tb_ V L j)), 0) := by
        unfold e9_ fF9
        rw [if_neg (by omega), if_pos (by omega)]
      rw [e]
      exact c2
def rs9_ (x m k : Nat) (r : XH) : Option (Int32 × XH) := Option.bind (f_X12_readPart x r) (fun q => if q.1 = 0 then some (0, q.2) else if k = 0 then f_X12_readSum_9 x m q.2 else Option.bind (f_X12_emits x q.2 11 0) (fun h4 => f_X12_readSum_9 x m h4))
theorem ts_11 {ru : Bool} {T : List Bool} : trL ru [(11, 0)] (false :: false :: T) = some (false :: T) := by
  cases ru <;> rfl
theorem sum9 {x L n : Nat} {V : Nat → Int} {ru : Bool} {c0 r0 : XH} {d : Nat} (TC : TkC x V L n ru c0) (TR : TpR x V L ru r0) : ∀ (N j k m m' : Nat) (E : List (Int × Int)) (c r : XH), n - j = N → N < m → N < m' → St9 x V L n ru c0 r0 c r j E d → k + 2 ≤ j → E.length + 2 + (if k = 0 then 0 else 1) ≤ j →
    ∃ (ok : Bool) (c' r' : XH), f_X8_readSum_2 x m c (jI (k : Int)) = some (bb9 ok, c') ∧ rs9_ x m' k r = some (bb9 ok, r') ∧ (ok = false → Fl9 x V L n ru c0 r0 c' r') ∧ (ok = true → ∃ j' F, St9 x V L n ru c0 r0 c' r' j' (E ++ F) d ∧ F.length + j ≤ j' + (if k = 0 then 0 else 1) ∧ ∀ T : List Bool, T.length ≤ 15 → trL ru F (if k = 0 then T else false :: T) = some (false :: T)) := by
  intro N
  induction N using Nat.strongRecOn with
  | _ N ih =>
    intro j k m m' E c r hN hm hm' S hk hE
    obtain ⟨m, rfl⟩ : ∃ q, m = q + 1 := ⟨m - 1, by omega⟩
    obtain ⟨m', rfl⟩ : ∃ q, m' = q + 1 := ⟨m' - 1, by omega⟩
    obtain ⟨p, g, R, hp, hj⟩ := S.R
    have n4 := TC.n4
    have jn := S.jn
    have le := S.le
    have tr := th_r (V := V) (L := L) (j := j) ru TR.b
    have tf := (th_ft (V := V) (L := L) (j := j) ru TR.b).1
    obtain ⟨r1, p1, a1, a2, a3, a4⟩ := r_part TR R hp hj (by omega)
    have l1 : (1020 : Int32) ≤ jI (th_ V L ru (tb_ V L j)) ↔ 1020 ≤ th_ V L ru (tb_ V L j) := jI_le (a := 1020) (by omega) (by omega) (by omega) (by omega)
    rw [f_X8_readSum_2, if_neg (show ¬ (400 : Int32) ≤ jI (k : Int) from fun q => absurd ((jI_le (a := 400) (by omega) (by omega) (by omega) (by omega)).mp q) (by omega)), c_here TC S.C jn, Option.bind_some]
    unfold rs9_ f_X8_readSum_29
    rw [a1, Option.bind_some]
    by_cases t : th_ V L ru (tb_ V L j) < 1020
    · rw [if_neg (fun q => absurd (l1.mp q) (by omega)), decide_eq_true t, if_neg b9t]
      obtain ⟨c1, b1, b2, b3⟩ := c_tak9 TC TR.b S.C jn (v := th_ V L ru (tb_ V L j)) (by omega) (by omega)
      have cond : th_ V L ru (tb_ V L j) = th_ V L ru (tb_ V L j) ∧ th_ V L ru (tb_ V L j) ≠ 1099 := ⟨rfl, by omega⟩
      rw [decide_eq_true cond] at b1
      rw [if_pos cond] at b2
      have jn1 := b3 cond
      obtain ⟨c2, d1, d2⟩ := c_write b2 (by omega) (e9_ (th_ V L ru (tb_ V L j))).1 (e9_ (th_ V L ru (tb_ V L j))).2
      rw [mu_e9 tr.1 t (fun q => tf q t)] at d1
      obtain ⟨a3R, a3j⟩ := a3 t
      have ee : ((e9_ (th_ V L ru (tb_ V L j))).1, (e9_ (th_ V L ru (tb_ V L j))).2) = e9_ (th_ V L ru (tb_ V L j)) := rfl
      rw [ee] at d2
      rw [b1, Option.bind_some, if_neg b9t, d1, Option.bind_some]
      have el1 : (E ++ [e9_ (th_ V L ru (tb_ V L j))]).length = E.length + 1 := by rw [List.length_append]; rfl
      -- what follows, once the steps are written
      have rest : ∀ (G : List (Int × Int)) (c3 r3 : XH) (p3 g3 : Nat), CS9 x ru c0 c3 (j + 1) (E ++ G) → RS9 x r0 r3 p3 g3 (E ++ G) d → p3 ≤ L → re9_ V L b9_ p3 = tb_ V L (j + 1) → (E ++ G).length + 2 ≤ j + 1 → (E ++ G).length ≤ E.length + 1 + (if k = 0 then 0 else 1) → (∀ T : List Bool, T.length ≤ 15 → trL ru G (if k = 0 then T else false :: T) = some (false :: T)) → ∃ (ok : Bool) (c' r' : XH), f_X8_readSum_47 (f_X8_readSum_2 x m) x c3 (jI (k : Int)) = some (bb9 ok, c') ∧ f_X12_readSum_9 x (m' + 1) r3 = some (bb9 ok, r') ∧ (ok = false → Fl9 x V L n ru c0 r0 c' r') ∧ (ok = true → ∃ j' F, St9 x V L n ru c0 r0 c' r' j' (E ++ F) d ∧ F.length + j ≤ j' + (if k = 0 then 0 else 1) ∧ ∀ T : List Bool, T.length ≤ 15 → trL ru F (if k = 0 then T else false :: T) = some (false :: T)) := fun G c3 r3 p3 g3 C3 R3 hp3 hj3 lG lG2 ty => by
        have lGE : (E ++ G).length = E.length + G.length := List.length_append
        obtain ⟨c4, e1, e2, e3⟩ := c_tak9 TC TR.b C3 jn1 (v := 1143) (by omega) (by omega)
        obtain ⟨r4, p4, f1, f2, f3, f4⟩ := r_sign TR R3 hp3 hj3 (c := 43) (by omega) (by omega) (by decide) (by decide)
        unfold f_X8_readSum_47
        rw [show f_X8_take x c3 1143 = _ from e1, Option.bind_some, f_X12_readSum_9, show f_X12_sign x r3 43 = _ from f1, Option.bind_some]
        by_cases q : th_ V L ru (tb_ V L (j + 1)) = 1143
        · have q1 : th_ V L ru (tb_ V L (j + 1)) = 1143 ∧ (1143 : Int) ≠ 1099 := ⟨q, by omega⟩
          have q2 : th_ V L ru (tb_ V L (j + 1)) = 1100 + 43 := by omega
          rw [if_pos q1] at e2
          rw [if_pos q2] at f4
          have jn2 := e3 q1
          rw [decide_eq_true q1, decide_eq_true q2, if_neg b9t, if_neg b9t, jI_s k]
          obtain ⟨ok, c', r', g1, g2, g3, g4⟩ := ih (n - (j + 2)) (by omega) (j + 2) (k + 1) m m' (E ++ G) c4 r4 rfl (by omega) (by omega) ⟨e2, ⟨p4, _, f2, f3, f4⟩, jn2, by omega⟩ (by omega) (by rw [if_neg (by omega)]; omega)
          rw [if_neg (show ¬ k + 1 = 0 by omega)] at g4
          refine ⟨ok, c', r', g1, ?_, g3, fun z => ?_⟩
          · rw [← g2]
            unfold rs9_
            simp only [if_neg (show ¬ k + 1 = 0 by omega)]
          · obtain ⟨j', F, u1, u2, u3⟩ := g4 z
            refine ⟨j', G ++ F, by rw [← List.append_assoc]; exact u1, ?_, fun T hT => ?_⟩
            · rw [List.length_append]
              omega
            · rw [trL_a, ty T hT, Option.bind_some]
              have := u3 T hT
              rw [if_neg (show ¬ k + 1 = 0 by omega)] at this
              exact this
        · have q1 : ¬ (th_ V L ru (tb_ V L (j + 1)) = 1143 ∧ (1143 : Int) ≠ 1099) := fun z => q z.1
          have q2 : ¬ th_ V L ru (tb_ V L (j + 1)) = 1100 + 43 := by omega
          rw [if_neg q1] at e2
          rw [if_neg q2] at f4
          rw [decide_eq_false q1, decide_eq_false q2, if_pos b9f, if_pos b9f]
          refine ⟨true, c4, r4, rfl, rfl, fun z => absurd z (by decide), fun _ => ⟨j + 1, G, ⟨e2, ⟨p4, _, f2, f3, f4⟩, jn1, lG⟩, by omega, ty⟩⟩
      by_cases k0 : k = 0
      · rw [if_pos (show jI (k : Int) ≤ (0 : Int32) from (jI_le (b := 0) (by omega) (by omega) (by omega) (by omega)).mpr (by omega)), if_pos k0]
        exact rest [e9_ (th_ V L ru (tb_ V L j))] c2 r1 p1 _ d2 a3R a2 a3j (by omega) (by rw [el1]; omega) (fun T hT => by rw [if_pos k0]; exact ts_e9 tr.1 t (fun q => tf q t) (by omega))
      · rw [if_neg k0] at hE
        rw [if_neg (show ¬ jI (k : Int) ≤ (0 : Int32) from fun q => absurd ((jI_le (b := 0) (by omega) (by omega) (by omega) (by omega)).mp q) (by omega)), if_neg k0]
        obtain ⟨c3, u1, u2⟩ := c_write d2 (by omega) 11 0
        obtain ⟨r3, v1, v2⟩ := r_em a3R (by omega) 11 0 ⟨by omega, by omega⟩ ⟨by omega, by omega⟩
        have el2 : (E ++ [e9_ (th_ V L ru (tb_ V L j))] ++ [((11 : Int), (0 : Int))]).length = E.length + 2 := by rw [List.length_append, el1]; rfl
        rw [show f_X8_write x c2 1143 = _ from u1, Option.bind_some, show f_X12_emits x r1 11 0 = _ from v1, Option.bind_some]
        have rr := rest ([e9_ (th_ V L ru (tb_ V L j))] ++ [((11 : Int), (0 : Int))]) c3 r3 p1 _ (by rw [← List.append_assoc]; exact u2) (by rw [← List.append_assoc]; exact v2) a2 a3j (by rw [← List.append_assoc, el2]; omega) (by rw [← List.append_assoc, el2, if_neg k0]; omega) (fun T hT => by
          rw [if_neg k0, trL_a, ts_e9 tr.1 t (fun q => tf q t) (by show T.length + 1 ≤ 16; omega), Option.bind_some]
          exact ts_11)
        exact rr
    · rw [if_pos (l1.mpr (by omega)), decide_eq_false t, if_pos b9f]
      obtain ⟨E', a4'⟩ := a4 t
      exact ⟨false, c, r1, rfl, rfl, fun _ => ⟨j, E, S.C, jn, by omega, p1, E', d, a4'⟩, fun z => absurd z (by decide)⟩
theorem sm9 {x L n : Nat} {V : Nat → Int} {ru : Bool} {c0 r0 c r : XH} {d j : Nat} {E : List (Int × Int)} (TC : TkC x V L n ru c0) (TR : TpR x V L ru r0) (S : St9 x V L n ru c0 r0 c r j E d) : Pc9 x V L n ru c0 r0 j E d 15 false (f_X8_readSum x c) (f_X12_readSum x r) := by
  have n4 := TC.n4
  have le := S.le
  obtain ⟨ok, c', r', a1, a2, a3, a4⟩ := sum9 TC TR (n - j) j 0 x_FU x_FU E c r rfl (by show n - j < 100000; omega) (by show n - j < 100000; omega) S (by omega) (by rw [if_pos rfl]; exact le)
  refine ⟨ok, c', r', a1, ?_, a3, fun z => ?_⟩
  · rw [← a2]
    rfl
  · obtain ⟨j', F, u1, u2, u3⟩ := a4 z
    exact ⟨j', F, u1, u2, u3⟩
