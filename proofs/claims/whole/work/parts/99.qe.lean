/-! ===== the component reads its things ===== -/
abbrev TkC (x : Nat) (V : Nat → Int) (L n : Nat) (ru : Bool) (h : XH) : Prop := (∀ j, j ≤ n → h.1 (x + 3) j = jI (th_ V L ru (tb_ V L j))) ∧ (∀ j, j ≤ n → h.1 (x + 4) j = jI ((tb_ V L j : Nat) : Int)) ∧ (n ≤ 400) ∧ (tb_ V L n = L) ∧ (∀ j, j < n → tb_ V L j < L)
theorem TkC.t {x : Nat} {V : Nat → Int} {L n : Nat} {ru : Bool} {h : XH} (T : TkC x V L n ru h) : ∀ j, j ≤ n → h.1 (x + 3) j = jI (th_ V L ru (tb_ V L j)) := T.1
theorem TkC.g {x : Nat} {V : Nat → Int} {L n : Nat} {ru : Bool} {h : XH} (T : TkC x V L n ru h) : ∀ j, j ≤ n → h.1 (x + 4) j = jI ((tb_ V L j : Nat) : Int) := T.2.1
theorem TkC.n4 {x : Nat} {V : Nat → Int} {L n : Nat} {ru : Bool} {h : XH} (T : TkC x V L n ru h) : n ≤ 400 := T.2.2.1
theorem TkC.e {x : Nat} {V : Nat → Int} {L n : Nat} {ru : Bool} {h : XH} (T : TkC x V L n ru h) : tb_ V L n = L := T.2.2.2.1
theorem TkC.lt {x : Nat} {V : Nat → Int} {L n : Nat} {ru : Bool} {h : XH} (T : TkC x V L n ru h) : ∀ j, j < n → tb_ V L j < L := T.2.2.2.2
abbrev CS9 (x : Nat) (ru : Bool) (h0 h : XH) (j : Nat) (E : List (Int × Int)) : Prop := (∀ a, a ≠ x + 1 → a ≠ x + 8 → h.1 a = h0.1 a) ∧ (h.2 = h0.2) ∧ (∀ k, k ≠ 9 → k ≠ 11 → h.1 (x + 1) k = h0.1 (x + 1) k) ∧ (h.1 (x + 1) 9 = jI j) ∧ (h.1 (x + 1) 11 = jI E.length) ∧ (∀ k, k < E.length → h.1 (x + 8) k = jI (mu_ ru (E.getD k (0, 0)).1 (E.getD k (0, 0)).2))
theorem CS9.fr {x : Nat} {ru : Bool} {h0 h : XH} {j : Nat} {E : List (Int × Int)} (T : CS9 x ru h0 h j E) : ∀ a, a ≠ x + 1 → a ≠ x + 8 → h.1 a = h0.1 a := T.1
theorem CS9.f2 {x : Nat} {ru : Bool} {h0 h : XH} {j : Nat} {E : List (Int × Int)} (T : CS9 x ru h0 h j E) : h.2 = h0.2 := T.2.1
theorem CS9.fm {x : Nat} {ru : Bool} {h0 h : XH} {j : Nat} {E : List (Int × Int)} (T : CS9 x ru h0 h j E) : ∀ k, k ≠ 9 → k ≠ 11 → h.1 (x + 1) k = h0.1 (x + 1) k := T.2.2.1
theorem CS9.at' {x : Nat} {ru : Bool} {h0 h : XH} {j : Nat} {E : List (Int × Int)} (T : CS9 x ru h0 h j E) : h.1 (x + 1) 9 = jI j := T.2.2.2.1
theorem CS9.st {x : Nat} {ru : Bool} {h0 h : XH} {j : Nat} {E : List (Int × Int)} (T : CS9 x ru h0 h j E) : h.1 (x + 1) 11 = jI E.length := T.2.2.2.2.1
theorem CS9.ev {x : Nat} {ru : Bool} {h0 h : XH} {j : Nat} {E : List (Int × Int)} (T : CS9 x ru h0 h j E) : ∀ k, k < E.length → h.1 (x + 8) k = jI (mu_ ru (E.getD k (0, 0)).1 (E.getD k (0, 0)).2) := T.2.2.2.2.2
theorem th_r {V : Nat → Int} {L j : Nat} (ru : Bool) (hb : ∀ k, k < L → 0 ≤ V k ∧ V k < 256) : 0 ≤ th_ V L ru (tb_ V L j) ∧ th_ V L ru (tb_ V L j) < 1400 ∧ (th_ V L ru (tb_ V L j) = 1099 ↔ tb_ V L j = L) := by
  rcases th_k (V := V) (L := L) (j := j) ru hb with ⟨k1, k2, k3, k9⟩ | ⟨k1, k2, k3, k4, k5, k6, k7⟩ | ⟨k1, k2, k3, k5, k6, k7, k4⟩ | ⟨k1, k2, k3, k4, k5, k6, k7, k8⟩
  · omega
  · have w := wc_f (V := V) (p := tb_ V L j) (m := te_ V L (tb_ V L j) - tb_ V L j) ru
    omega
  · omega
  · have := hb _ k1
    omega
theorem c_here {x L n j : Nat} {V : Nat → Int} {ru : Bool} {h0 h : XH} {E : List (Int × Int)} (T : TkC x V L n ru h0) (C : CS9 x ru h0 h j E) (hj : j ≤ n) : f_X8_here x h = some (jI (th_ V L ru (tb_ V L j))) := by
  have n4 := T.n4
  unfold f_X8_here
  rw [C.at', if_pos (jI_b (by omega) (by omega) (by omega)), nat_ (by omega), C.fr _ (by omega) (by omega), T.t j hj]
theorem c_tak9 {x L n j : Nat} {V : Nat → Int} {ru : Bool} {h0 h : XH} {E : List (Int × Int)} (T : TkC x V L n ru h0) (hb : ∀ k, k < L → 0 ≤ V k ∧ V k < 256) (C : CS9 x ru h0 h j E) (hj : j ≤ n) {v : Int} (v1 : 0 ≤ v) (v2 : v < 2000) :
    ∃ h', f_X8_take x h (jI v) = some (bb9 (decide (th_ V L ru (tb_ V L j) = v ∧ v ≠ 1099)), h') ∧ CS9 x ru h0 h' (if th_ V L ru (tb_ V L j) = v ∧ v ≠ 1099 then j + 1 else j) E ∧ (th_ V L ru (tb_ V L j) = v ∧ v ≠ 1099 → j + 1 ≤ n) := by
  have n4 := T.n4
  have tr := th_r (V := V) (L := L) (j := j) ru hb
  have e3 : h.1 (x + 3) j = jI (th_ V L ru (tb_ V L j)) := by rw [C.fr _ (by omega) (by omega)]; exact T.t j hj
  unfold f_X8_take f_X8_take_30
  rw [C.at', nat_ (show j < 2147483648 by omega), e3]
  have e1 : jI (th_ V L ru (tb_ V L j)) = jI v ↔ th_ V L ru (tb_ V L j) = v := jI_eq (by omega) (by omega) (by omega) (by omega)
  have e2 : jI v = (1099 : Int32) ↔ v = 1099 := jI_eq (b := 1099) (by omega) (by omega) (by omega) (by omega)
  by_cases c : th_ V L ru (tb_ V L j) = v ∧ v ≠ 1099
  · have jl : j < n := by
      by_cases q : j < n
      · exact q
      · have : tb_ V L j = L := by rw [show j = n by omega]; exact T.e
        omega
    rw [if_neg (show ¬ (400 : Int32) ≤ jI (j : Int) from fun q => absurd ((jI_le (a := 400) (by omega) (by omega) (by omega) (by omega)).mp q) (by omega)), if_pos (jI_b (by omega) (by omega) (by omega)), if_pos (e1.mpr c.1), if_neg (fun q => c.2 (e2.mp q)), xl_, decide_eq_true c, if_pos c, jI_s j]
    refine ⟨_, rfl, ⟨fun a a1 a2 => by rw [gi_n a1]; exact C.fr a a1 a2, C.f2, fun k k1 k2 => by rw [gi_k k1]; exact C.fm k k1 k2, gi_s, by rw [gi_k (by omega)]; exact C.st, fun k hk => by rw [gi_a (by omega)]; exact C.ev k hk⟩, fun _ => by omega⟩
  · rw [decide_eq_false c, if_neg c]
    refine ⟨h, ?_, C, fun q => absurd q c⟩
    by_cases c4 : 400 ≤ j
    · rw [if_pos (show (400 : Int32) ≤ jI (j : Int) from (jI_le (a := 400) (by omega) (by omega) (by omega) (by omega)).mpr (by omega))]
      rfl
    · rw [if_neg (show ¬ (400 : Int32) ≤ jI (j : Int) from fun q => absurd ((jI_le (a := 400) (by omega) (by omega) (by omega) (by omega)).mp q) (by omega)), if_pos (jI_b (by omega) (by omega) (by omega))]
      by_cases c1 : th_ V L ru (tb_ V L j) = v
      · rw [if_pos (e1.mpr c1), if_pos (e2.mpr (by
          by_cases q : v = 1099
          · exact q
          · exact absurd ⟨c1, q⟩ c))]
        rfl
      · rw [if_neg (fun q => c1 (e1.mp q))]
        rfl
theorem c_write {x j : Nat} {ru : Bool} {h0 h : XH} {E : List (Int × Int)} (C : CS9 x ru h0 h j E) (hE : E.length < 400) (s k : Int) : ∃ h', f_X8_write x h (jI (mu_ ru s k)) = some h' ∧ CS9 x ru h0 h' j (E ++ [(s, k)]) := by
  have el : (E ++ [(s, k)]).length = E.length + 1 := by rw [List.length_append]; rfl
  unfold f_X8_write
  rw [C.st, if_neg (show ¬ (400 : Int32) ≤ jI (E.length : Int) from fun q => absurd ((jI_le (a := 400) (by omega) (by omega) (by omega) (by omega)).mp q) (by omega)), if_pos (jI_b (by omega) (by omega) (by omega)), xl_, nat_ (by omega), gi_a (by omega), C.st, jI_s E.length, xl_]
  refine ⟨_, rfl, ⟨fun a a1 a2 => by rw [gi_n a1, gi_n a2]; exact C.fr a a1 a2, C.f2, fun k k1 k2 => by rw [gi_k k2, gi_a (by omega)]; exact C.fm k k1 k2, by rw [gi_k (by omega), gi_a (by omega)]; exact C.at', by rw [gi_s, el], fun k' hk => ?_⟩⟩
  rw [gi_a (by omega)]
  by_cases c : k' = E.length
  · rw [c, gi_s, gE_r]
  · rw [gi_k c, gE_l (by omega)]
    exact C.ev k' (by omega)
/-! ===== in step: what both have read, and what it is ===== -/
def trL (ru : Bool) : List (Int × Int) → List Bool → Option (List Bool)
  | [], T => some T
  | e :: F, T => Option.bind (ts_ ru e.1 e.2 T) (fun T' => trL ru F T')
theorem trL_a {ru : Bool} : ∀ (F G : List (Int × Int)) (T : List Bool), trL ru (F ++ G) T = Option.bind (trL ru F T) (fun T' => trL ru G T') := by
  intro F
  induction F with
  | nil => intros; rfl
  | cons e F ih =>
    intro G T
    show Option.bind (ts_ ru e.1 e.2 T) (fun T' => trL ru (F ++ G) T') = Option.bind (Option.bind (ts_ ru e.1 e.2 T) (fun T' => trL ru F T')) (fun T' => trL ru G T')
    cases ts_ ru e.1 e.2 T with
    | none => rfl
    | some T' =>
      simp only [Option.bind_some]
      exact ih G T'
/-- they stand in step -/
abbrev St9 (x : Nat) (V : Nat → Int) (L n : Nat) (ru : Bool) (c0 r0 c r : XH) (j : Nat) (E : List (Int × Int)) (d : Nat) : Prop := (CS9 x ru c0 c j E) ∧ (∃ p g, RS9 x r0 r p g E d ∧ p ≤ L ∧ re9_ V L b9_ p = tb_ V L j) ∧ (j ≤ n) ∧ (E.length + 2 ≤ j)
theorem St9.C {x : Nat} {V : Nat → Int} {L n : Nat} {ru : Bool} {c0 r0 c r : XH} {j : Nat} {E : List (Int × Int)} {d : Nat} (T : St9 x V L n ru c0 r0 c r j E d) : CS9 x ru c0 c j E := T.1
theorem St9.R {x : Nat} {V : Nat → Int} {L n : Nat} {ru : Bool} {c0 r0 c r : XH} {j : Nat} {E : List (Int × Int)} {d : Nat} (T : St9 x V L n ru c0 r0 c r j E d) : ∃ p g, RS9 x r0 r p g E d ∧ p ≤ L ∧ re9_ V L b9_ p = tb_ V L j := T.2.1
theorem St9.jn {x : Nat} {V : Nat → Int} {L n : Nat} {ru : Bool} {c0 r0 c r : XH} {j : Nat} {E : List (Int × Int)} {d : Nat} (T : St9 x V L n ru c0 r0 c r j E d) : j ≤ n := T.2.2.1
theorem St9.le {x : Nat} {V : Nat → Int} {L n : Nat} {ru : Bool} {c0 r0 c r : XH} {j : Nat} {E : List (Int × Int)} {d : Nat} (T : St9 x V L n ru c0 r0 c r j E d) : E.length + 2 ≤ j := T.2.2.2
/-- they have failed at the same thing -/
abbrev Fl9 (x : Nat) (V : Nat → Int) (L n : Nat) (ru : Bool) (c0 r0 c r : XH) : Prop := (∃ j E, CS9 x ru c0 c j E ∧ j ≤ n ∧ E.length ≤ 400 ∧ ∃ p E' d, RS9 x r0 r p (tb_ V L j) E' d)
theorem Fl9.C {x : Nat} {V : Nat → Int} {L n : Nat} {ru : Bool} {c0 r0 c r : XH} (T : Fl9 x V L n ru c0 r0 c r) : ∃ j E, CS9 x ru c0 c j E ∧ j ≤ n ∧ E.length ≤ 400 ∧ ∃ p E' d, RS9 x r0 r p (tb_ V L j) E' d := T
/-- a piece that leaves b on the pile, read in step -/
def Pc9 (x : Nat) (V : Nat → Int) (L n : Nat) (ru : Bool) (c0 r0 : XH) (j : Nat) (E : List (Int × Int)) (d : Nat) (tn : Nat) (b : Bool) (oc or' : Option (Int32 × XH)) : Prop :=
  ∃ (ok : Bool) (c r : XH), oc = some (bb9 ok, c) ∧ or' = some (bb9 ok, r) ∧ (ok = false → Fl9 x V L n ru c0 r0 c r) ∧ (ok = true → ∃ j' F, St9 x V L n ru c0 r0 c r j' (E ++ F) d ∧ F.length + j ≤ j' ∧ ∀ T : List Bool, T.length ≤ tn → trL ru F T = some (b :: T))
