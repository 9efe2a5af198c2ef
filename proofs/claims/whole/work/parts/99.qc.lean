/-! ===== the reference reads its tape ===== -/
theorem b9f : bb9 false = 0 := rfl
theorem b9t : ¬ bb9 true = 0 := by decide
abbrev TpR (x : Nat) (V : Nat → Int) (L : Nat) (ru : Bool) (h : XH) : Prop := (h.1 (x + 64) 7 = jI L) ∧ (h.1 (x + 64) 13 = bb9 ru) ∧ (L ≤ 400) ∧ (∀ k, k < L → h.1 (x + 67) k = jI (if V k < 128 then V k else V k - 256)) ∧ (∀ k, k < L → 0 ≤ V k ∧ V k < 256)
theorem TpR.l {x : Nat} {V : Nat → Int} {L : Nat} {ru : Bool} {h : XH} (T : TpR x V L ru h) : h.1 (x + 64) 7 = jI L := T.1
theorem TpR.r {x : Nat} {V : Nat → Int} {L : Nat} {ru : Bool} {h : XH} (T : TpR x V L ru h) : h.1 (x + 64) 13 = bb9 ru := T.2.1
theorem TpR.L4 {x : Nat} {V : Nat → Int} {L : Nat} {ru : Bool} {h : XH} (T : TpR x V L ru h) : L ≤ 400 := T.2.2.1
theorem TpR.v {x : Nat} {V : Nat → Int} {L : Nat} {ru : Bool} {h : XH} (T : TpR x V L ru h) : ∀ k, k < L → h.1 (x + 67) k = jI (if V k < 128 then V k else V k - 256) := T.2.2.2.1
theorem TpR.b {x : Nat} {V : Nat → Int} {L : Nat} {ru : Bool} {h : XH} (T : TpR x V L ru h) : ∀ k, k < L → 0 ≤ V k ∧ V k < 256 := T.2.2.2.2
abbrev RS9 (x : Nat) (h0 h : XH) (p g : Nat) (E : List (Int × Int)) (d : Nat) : Prop := (∀ a, a ≠ x + 64 → a ≠ x + 65 → h.1 a = h0.1 a) ∧ (h.2 = h0.2) ∧ (∀ k, k ≠ 6 → k ≠ 8 → k ≠ 9 → k ≠ 12 → h.1 (x + 64) k = h0.1 (x + 64) k) ∧ (∀ k, k < 6127 → h.1 (x + 65) k = h0.1 (x + 65) k) ∧ (h.1 (x + 64) 6 = jI p) ∧ (h.1 (x + 64) 8 = jI g) ∧ (h.1 (x + 64) 9 = jI d) ∧ (h.1 (x + 64) 12 = jI E.length) ∧ (∀ k, k < E.length → h.1 (x + 65) (6127 + 2 * k) = jI (E.getD k (0, 0)).1 ∧ h.1 (x + 65) (6128 + 2 * k) = jI (E.getD k (0, 0)).2) ∧ (∀ k, k < E.length → (-2147483648 ≤ (E.getD k (0, 0)).1 ∧ (E.getD k (0, 0)).1 < 2147483648) ∧ -2147483648 ≤ (E.getD k (0, 0)).2 ∧ (E.getD k (0, 0)).2 < 2147483648)
theorem RS9.fr {x : Nat} {h0 h : XH} {p g : Nat} {E : List (Int × Int)} {d : Nat} (T : RS9 x h0 h p g E d) : ∀ a, a ≠ x + 64 → a ≠ x + 65 → h.1 a = h0.1 a := T.1
theorem RS9.f2 {x : Nat} {h0 h : XH} {p g : Nat} {E : List (Int × Int)} {d : Nat} (T : RS9 x h0 h p g E d) : h.2 = h0.2 := T.2.1
theorem RS9.fm {x : Nat} {h0 h : XH} {p g : Nat} {E : List (Int × Int)} {d : Nat} (T : RS9 x h0 h p g E d) : ∀ k, k ≠ 6 → k ≠ 8 → k ≠ 9 → k ≠ 12 → h.1 (x + 64) k = h0.1 (x + 64) k := T.2.2.1
theorem RS9.fw {x : Nat} {h0 h : XH} {p g : Nat} {E : List (Int × Int)} {d : Nat} (T : RS9 x h0 h p g E d) : ∀ k, k < 6127 → h.1 (x + 65) k = h0.1 (x + 65) k := T.2.2.2.1
theorem RS9.pt {x : Nat} {h0 h : XH} {p g : Nat} {E : List (Int × Int)} {d : Nat} (T : RS9 x h0 h p g E d) : h.1 (x + 64) 6 = jI p := T.2.2.2.2.1
theorem RS9.bg {x : Nat} {h0 h : XH} {p g : Nat} {E : List (Int × Int)} {d : Nat} (T : RS9 x h0 h p g E d) : h.1 (x + 64) 8 = jI g := T.2.2.2.2.2.1
theorem RS9.dp {x : Nat} {h0 h : XH} {p g : Nat} {E : List (Int × Int)} {d : Nat} (T : RS9 x h0 h p g E d) : h.1 (x + 64) 9 = jI d := T.2.2.2.2.2.2.1
theorem RS9.st {x : Nat} {h0 h : XH} {p g : Nat} {E : List (Int × Int)} {d : Nat} (T : RS9 x h0 h p g E d) : h.1 (x + 64) 12 = jI E.length := T.2.2.2.2.2.2.2.1
theorem RS9.ev {x : Nat} {h0 h : XH} {p g : Nat} {E : List (Int × Int)} {d : Nat} (T : RS9 x h0 h p g E d) : ∀ k, k < E.length → h.1 (x + 65) (6127 + 2 * k) = jI (E.getD k (0, 0)).1 ∧ h.1 (x + 65) (6128 + 2 * k) = jI (E.getD k (0, 0)).2 := T.2.2.2.2.2.2.2.2.1
theorem RS9.eb {x : Nat} {h0 h : XH} {p g : Nat} {E : List (Int × Int)} {d : Nat} (T : RS9 x h0 h p g E d) : ∀ k, k < E.length → (-2147483648 ≤ (E.getD k (0, 0)).1 ∧ (E.getD k (0, 0)).1 < 2147483648) ∧ -2147483648 ≤ (E.getD k (0, 0)).2 ∧ (E.getD k (0, 0)).2 < 2147483648 := T.2.2.2.2.2.2.2.2.2
theorem RS9.mv {x : Nat} {h0 h : XH} {p g d : Nat} {E : List (Int × Int)} (R : RS9 x h0 h p g E d) (q : Nat) : RS9 x h0 (x_i h (x + 64) 6 (jI (q : Int))) q g E d :=
  ⟨fun a a1 a2 => by rw [gi_n a1]; exact R.fr a a1 a2, R.f2, fun k k1 k2 k3 k4 => by rw [gi_k k1]; exact R.fm k k1 k2 k3 k4, fun k hk => by rw [gi_a (by omega)]; exact R.fw k hk, gi_s, by rw [gi_k (by omega)]; exact R.bg, by rw [gi_k (by omega)]; exact R.dp, by rw [gi_k (by omega)]; exact R.st, fun k hk => by rw [gi_a (by omega), gi_a (by omega)]; exact R.ev k hk, R.eb⟩
theorem RS9.bg' {x : Nat} {h0 h : XH} {p g d : Nat} {E : List (Int × Int)} (R : RS9 x h0 h p g E d) (q : Nat) : RS9 x h0 (x_i h (x + 64) 8 (jI (q : Int))) p q E d :=
  ⟨fun a a1 a2 => by rw [gi_n a1]; exact R.fr a a1 a2, R.f2, fun k k1 k2 k3 k4 => by rw [gi_k k2]; exact R.fm k k1 k2 k3 k4, fun k hk => by rw [gi_a (by omega)]; exact R.fw k hk, by rw [gi_k (by omega)]; exact R.pt, gi_s, by rw [gi_k (by omega)]; exact R.dp, by rw [gi_k (by omega)]; exact R.st, fun k hk => by rw [gi_a (by omega), gi_a (by omega)]; exact R.ev k hk, R.eb⟩
theorem RS9.dp' {x : Nat} {h0 h : XH} {p g d : Nat} {E : List (Int × Int)} (R : RS9 x h0 h p g E d) (q : Nat) : RS9 x h0 (x_i h (x + 64) 9 (jI (q : Int))) p g E q :=
  ⟨fun a a1 a2 => by rw [gi_n a1]; exact R.fr a a1 a2, R.f2, fun k k1 k2 k3 k4 => by rw [gi_k k3]; exact R.fm k k1 k2 k3 k4, fun k hk => by rw [gi_a (by omega)]; exact R.fw k hk, by rw [gi_k (by omega)]; exact R.pt, by rw [gi_k (by omega)]; exact R.bg, gi_s, by rw [gi_k (by omega)]; exact R.st, fun k hk => by rw [gi_a (by omega), gi_a (by omega)]; exact R.ev k hk, R.eb⟩
theorem gE_l {l : List (Int × Int)} {i : Int × Int} {k : Nat} (h : k < l.length) : (l ++ [i]).getD k (0, 0) = l.getD k (0, 0) := by
  simp [List.getD, List.getElem?_append, h]
theorem gE_r {l : List (Int × Int)} {i : Int × Int} : (l ++ [i]).getD l.length (0, 0) = i := by
  simp [List.getD]
theorem r_em {x : Nat} {h0 h : XH} {p g d : Nat} {E : List (Int × Int)} (R : RS9 x h0 h p g E d) (hE : E.length < 400) (s n : Int) (hs : -2147483648 ≤ s ∧ s < 2147483648) (hn : -2147483648 ≤ n ∧ n < 2147483648) : ∃ h', f_X12_emits x h (jI s) (jI n) = some h' ∧ RS9 x h0 h' p g (E ++ [(s, n)]) d := by
  have et : f_X12_textAt h 6 + 51 + 2 * h.1 (x + 64) 12 = jI ((6127 + 2 * E.length : Nat) : Int) := by
    rw [R.st]
    unfold f_X12_textAt
    rw [show (970 : Int32) + 851 * 6 + 51 = jI 6127 from by decide, show (2 : Int32) = jI 2 from rfl, jI_mul, jI_add]
    congr 1
  have et1 : jI ((6127 + 2 * E.length : Nat) : Int) + 1 = jI ((6128 + 2 * E.length : Nat) : Int) := by
    rw [jI_s]
    congr 1
    omega
  have el : (E ++ [(s, n)]).length = E.length + 1 := by rw [List.length_append]; rfl
  refine ⟨x_i (x_i (x_i h (x + 65) (6127 + 2 * E.length) (jI s)) (x + 65) (6128 + 2 * E.length) (jI n)) (x + 64) 12 (jI ((E.length + 1 : Nat) : Int)), ?_, ⟨fun a a1 a2 => ?_, R.f2, fun k k1 k2 k3 k4 => ?_, fun k hk => ?_, ?_, ?_, ?_, ?_, fun k hk => ?_, fun k hk => ?_⟩⟩
  · unfold f_X12_emits
    rw [xl_, et, if_pos (jI_b (by omega) (by omega) (by omega)), xl_, nat_ (by omega), et1, if_pos (jI_b (by omega) (by omega) (by omega)), xl_, nat_ (by omega), xl_, gi_a (by omega), gi_a (by omega), R.st, jI_s E.length]
  · rw [gi_n a1, gi_n a2, gi_n a2]
    exact R.fr a a1 a2
  · rw [gi_k k4, gi_a (by omega), gi_a (by omega)]
    exact R.fm k k1 k2 k3 k4
  · rw [gi_a (by omega), gi_k (by omega), gi_k (by omega)]
    exact R.fw k hk
  · rw [gi_k (by omega), gi_a (by omega), gi_a (by omega)]
    exact R.pt
  · rw [gi_k (by omega), gi_a (by omega), gi_a (by omega)]
    exact R.bg
  · rw [gi_k (by omega), gi_a (by omega), gi_a (by omega)]
    exact R.dp
  · rw [gi_s, el]
  · rw [gi_a (show x + 65 ≠ x + 64 by omega), gi_a (show x + 65 ≠ x + 64 by omega)]
    by_cases c : k = E.length
    · rw [c, gE_r, gi_k (show 6127 + 2 * E.length ≠ 6128 + 2 * E.length by omega), gi_s, gi_s]
      exact ⟨rfl, rfl⟩
    · rw [gE_l (by omega), gi_k (by omega), gi_k (by omega), gi_k (by omega), gi_k (by omega)]
      exact R.ev k (by omega)
  · by_cases c : k = E.length
    · rw [c, gE_r]
      exact ⟨hs, hn⟩
    · rw [gE_l (by omega)]
      exact R.eb k (by omega)
theorem r_isAt {x L : Nat} {V : Nat → Int} {ru : Bool} {h0 h : XH} {p g d : Nat} {E : List (Int × Int)} (T : TpR x V L ru h0) (R : RS9 x h0 h p g E d) (hp : p ≤ L) {lo hi : Int} (b1 : 1 ≤ lo) (b2 : hi ≤ 127) (b3 : lo ≤ hi) : f_X12_isAt x h (jI lo) (jI hi) = some (bb9 (decide (p < L ∧ lo ≤ V p ∧ V p ≤ hi))) := by
  have L4 := T.L4
  have e7 : h.1 (x + 64) 7 = jI L := by rw [R.fm 7 (by omega) (by omega) (by omega) (by omega)]; exact T.l
  unfold f_X12_isAt f_X12_isAt_41
  rw [e7, R.pt]
  by_cases c : L ≤ p
  · rw [if_pos ((jI_le (by omega) (by omega) (by omega) (by omega)).mpr (by omega)), decide_eq_false (by omega)]
    rfl
  · have vb := T.b p (by omega)
    have ev : h.1 (x + 67) p = jI (if V p < 128 then V p else V p - 256) := by rw [R.fr _ (by omega) (by omega)]; exact T.v p (by omega)
    rw [if_neg (fun q => absurd ((jI_le (by omega) (by omega) (by omega) (by omega)).mp q) (by omega)), if_pos (jI_b (by omega) (by omega) (by omega)), nat_ (by omega), ev, if_pos (jI_b (by omega) (by omega) (by omega))]
    have g1 : jI (if V p < 128 then V p else V p - 256) < jI lo ↔ ¬ (lo ≤ V p ∧ V p < 128) := by
      rw [jI_lt (by split <;> omega) (by split <;> omega) (by omega) (by omega)]
      split <;> omega
    have g2 : jI hi < jI (if V p < 128 then V p else V p - 256) ↔ hi < V p ∧ V p < 128 := by
      rw [jI_lt (by omega) (by omega) (by split <;> omega) (by split <;> omega)]
      split <;> omega
    by_cases e : lo ≤ V p ∧ V p < 128
    · rw [if_neg (fun q => g1.mp q e)]
      by_cases f : hi < V p
      · rw [if_pos (g2.mpr ⟨f, e.2⟩), decide_eq_false (by omega)]
        rfl
      · rw [if_neg (fun q => f (g2.mp q).1), decide_eq_true (by omega)]
        rfl
    · rw [if_pos (g1.mpr e), decide_eq_false (by omega)]
      rfl
theorem r_bla {x L : Nat} {V : Nat → Int} {ru : Bool} {h0 : XH} {E : List (Int × Int)} {d : Nat} (T : TpR x V L ru h0) : ∀ k p g (h : XH), L - p = k → p ≤ L → RS9 x h0 h p g E d → ∃ h', f_X12_blanks x h = some h' ∧ RS9 x h0 h' (re9_ V L b9_ p) (re9_ V L b9_ p) E d := by
  have L4 := T.L4
  have key : ∀ k m p g (h : XH), L - p = k → p ≤ L → k < m → RS9 x h0 h p g E d → ∃ h', f_X12_blanks_0 x m h = some h' ∧ RS9 x h0 h' (re9_ V L b9_ p) (re9_ V L b9_ p) E d := by
    intro k
    induction k with
    | zero =>
      intro m p g h hk hp hm R
      obtain ⟨m, rfl⟩ : ∃ m', m = m' + 1 := ⟨m - 1, by omega⟩
      have ia := r_isAt T R hp (lo := 32) (hi := 32) (by omega) (by omega) (by omega)
      rw [decide_eq_false (by omega)] at ia
      refine ⟨x_i h (x + 64) 8 (jI (p : Int)), ?_, by rw [re_0 (by omega)]; exact R.bg' p⟩
      rw [f_X12_blanks_0, show f_X12_isAt x h 32 32 = _ from ia, Option.bind_some, if_pos b9f, xl_, R.pt]
    | succ k ih =>
      intro m p g h hk hp hm R
      obtain ⟨m, rfl⟩ : ∃ m', m = m' + 1 := ⟨m - 1, by omega⟩
      have ia := r_isAt T R hp (lo := 32) (hi := 32) (by omega) (by omega) (by omega)
      by_cases c : V p = 32
      · rw [decide_eq_true (by omega)] at ia
        obtain ⟨h', k1, k2⟩ := ih m (p + 1) g (x_i h (x + 64) 6 (jI ((p + 1 : Nat) : Int))) (by omega) (by omega) (by omega) (R.mv (p + 1))
        refine ⟨h', ?_, by rw [re_y (by omega) (decide_eq_true c)]; exact k2⟩
        rw [f_X12_blanks_0, show f_X12_isAt x h 32 32 = _ from ia, Option.bind_some, if_neg (by decide), xl_, R.pt, jI_s p, k1]
      · rw [decide_eq_false (by omega)] at ia
        refine ⟨x_i h (x + 64) 8 (jI (p : Int)), ?_, by rw [re_n (by omega) (decide_eq_false c)]; exact R.bg' p⟩
        rw [f_X12_blanks_0, show f_X12_isAt x h 32 32 = _ from ia, Option.bind_some, if_pos b9f, xl_, R.pt]
  intro k p g h hk hp R
  exact key k x_FU p g h hk hp (by show k < 100000; omega) R
/-- letters from where it stands -/
theorem r_let {x L : Nat} {V : Nat → Int} {ru : Bool} {h0 : XH} {E : List (Int × Int)} {d p g : Nat} {h : XH} (T : TpR x V L ru h0) (hp : p ≤ L) (R : RS9 x h0 h p g E d) : ∃ h', f_X12_letters x h = some h' ∧ RS9 x h0 h' (re9_ V L l9_ (re9_ V L b9_ p)) (re9_ V L b9_ p) E d := by
  have L4 := T.L4
  obtain ⟨h1, a1, a2⟩ := r_bla T _ p g h rfl hp R
  have bl := (re_p (V := V) (L := L) (f := b9_) _ p rfl).2.1 hp
  have key : ∀ k m p' (h : XH), L - p' = k → p' ≤ L → k < m → RS9 x h0 h p' (re9_ V L b9_ p) E d → ∃ h', f_X12_letters_4 x m h = some h' ∧ RS9 x h0 h' (re9_ V L l9_ p') (re9_ V L b9_ p) E d := by
    intro k
    induction k with
    | zero =>
      intro m p' h hk hp hm R
      obtain ⟨m, rfl⟩ : ∃ m', m = m' + 1 := ⟨m - 1, by omega⟩
      have ia := r_isAt T R hp (lo := 97) (hi := 122) (by omega) (by omega) (by omega)
      rw [decide_eq_false (by omega)] at ia
      refine ⟨h, ?_, by rw [re_0 (by omega)]; exact R⟩
      rw [f_X12_letters_4, show f_X12_isAt x h 97 122 = _ from ia, Option.bind_some, if_pos b9f]
    | succ k ih =>
      intro m p' h hk hp hm R
      obtain ⟨m, rfl⟩ : ∃ m', m = m' + 1 := ⟨m - 1, by omega⟩
      have ia := r_isAt T R hp (lo := 97) (hi := 122) (by omega) (by omega) (by omega)
      by_cases c : 97 ≤ V p' ∧ V p' ≤ 122
      · rw [decide_eq_true (by omega)] at ia
        obtain ⟨h', k1, k2⟩ := ih m (p' + 1) (x_i h (x + 64) 6 (jI ((p' + 1 : Nat) : Int))) (by omega) (by omega) (by omega) (R.mv (p' + 1))
        refine ⟨h', ?_, by rw [re_y (by omega) (decide_eq_true c)]; exact k2⟩
        rw [f_X12_letters_4, show f_X12_isAt x h 97 122 = _ from ia, Option.bind_some, if_neg (by decide), xl_, R.pt, jI_s p', k1]
      · rw [decide_eq_false (by omega)] at ia
        refine ⟨h, ?_, by rw [re_n (by omega) (decide_eq_false c)]; exact R⟩
        rw [f_X12_letters_4, show f_X12_isAt x h 97 122 = _ from ia, Option.bind_some, if_pos b9f]
  obtain ⟨h2, b1, b2⟩ := key _ x_FU _ h1 rfl bl (by show L - _ < 100000; omega) a2
  refine ⟨h2, ?_, b2⟩
  unfold f_X12_letters
  rw [a1, Option.bind_some, b1]
theorem wc_r : ∀ s : Fin 71, 50 ≤ s.val → ∀ c, c ∈ w9_ s.val → 97 ≤ c.toInt ∧ c.toInt ≤ 122 := by decide +kernel
theorem wq_l {V : Nat → Int} {p m : Nat} : ∀ (w : List Int32) (k : Nat), wq_ V p m w k = true → k + w.length = m := by
  intro w
  induction w with
  | nil => intro k h; simpa [wq_] using h
  | cons c w ih =>
    intro k h
    have a : ((decide (k < m) && decide (jI (V (p + k)) = c)) && wq_ V p m w (k + 1)) = true := h
    rw [Bool.and_eq_true] at a
    have := ih (k + 1) a.2
    have e : (c :: w).length = w.length + 1 := rfl
    omega
theorem r_isW {x L : Nat} {V : Nat → Int} {ru : Bool} {h0 h : XH} {E : List (Int × Int)} {d q g s : Nat} (T : TpR x V L ru h0) (R : RS9 x h0 h q g E d) (hg : g ≤ q) (hq : q ≤ L) (hs : s < 71) (hs5 : 50 ≤ s) : f_X12_isWord x h s = some (bb9 (wq_ V g (q - g) (w9_ s) 0)) := by
  have L4 := T.L4
  have sl : (w9_ s).length < 100 := sl9_ ⟨s, hs⟩
  have ln : f_J0_length_8abf5 s h = jI ((w9_ s).length : Int) := len_s h ⟨s, hs⟩
  unfold f_X12_isWord
  rw [R.pt, R.bg, ln, jI_sub, xl_]
  have eq : jI ((q : Int) - (g : Int)) = jI ((w9_ s).length : Int) ↔ q - g = (w9_ s).length := by
    rw [jI_eq (by omega) (by omega) (by omega) (by omega)]
    omega
  by_cases c : q - g = (w9_ s).length
  · rw [if_pos (eq.mpr c)]
    have key := x_up0 (P := fun m k => ∀ fl : Bool, f_X12_isWord_24 x h m s (bb9 fl) (jI (k : Int)) = some (bb9 (fl && wq_ V g (q - g) ((w9_ s).drop k) k))) (w9_ s).length (by omega) (fun m fl => by
      rw [f_X12_isWord_24, ln, List.drop_length]
      unfold f_X12_isWord_67
      have : wq_ V g (q - g) [] (w9_ s).length = true := decide_eq_true c.symm
      rw [this, Bool.and_true, if_pos (show jI ((w9_ s).length : Int) ≤ jI ((w9_ s).length : Int) from (jI_le (by omega) (by omega) (by omega) (by omega)).mpr (by omega)), ite_self]
      rw [if_pos (by cases fl <;> decide)]) (fun m k hk ih fl => by
      rw [f_X12_isWord_24, ln, gD_d (a := 0) hk]
      unfold f_X12_isWord_67
      cases fl
      · rw [if_pos b9f, if_pos (by decide), Bool.false_and]
      · have vb := T.b (g + k) (by omega)
        have ev : h.1 (x + 67) (g + k) = jI (if V (g + k) < 128 then V (g + k) else V (g + k) - 256) := by rw [R.fr _ (by omega) (by omega)]; exact T.v _ (by omega)
        have mem : (w9_ s).getD k 0 ∈ w9_ s := by
          rw [List.getD_eq_getElem?_getD, List.getElem?_eq_getElem hk]
          exact List.getElem_mem hk
        have wr := wc_r ⟨s, hs⟩ hs5 _ mem
        rw [if_neg (show ¬ bb9 true = 0 by decide), if_neg (fun q => absurd ((jI_le (by omega) (by omega) (by omega) (by omega)).mp q) (by omega)), R.bg, jI_add, show (g : Int) + (k : Int) = ((g + k : Nat) : Int) by omega, if_pos (jI_b (by omega) (by omega) (by omega)), chr_s h hs hk, Option.bind_some, xl_, nat_ (by omega), ev, jI_s k]
        show _ = some (bb9 (true && ((decide (k < q - g) && decide (jI (V (g + k)) = (w9_ s).getD k 0)) && wq_ V g (q - g) ((w9_ s).drop (k + 1)) (k + 1))))
        generalize (w9_ s).getD k 0 = ch at wr
        have ech : ch = jI ch.toInt := jI_of ch
        have same : jI (if V (g + k) < 128 then V (g + k) else V (g + k) - 256) = ch ↔ jI (V (g + k)) = ch := by
          rw [ech, jI_eq (by split <;> omega) (by split <;> omega) (by omega) (by omega), jI_eq (by omega) (by omega) (by omega) (by omega)]
          split <;> omega
        rw [decide_eq_true (show k < q - g by omega), Bool.true_and, Bool.true_and, ← ih]
        unfold bb9
        by_cases z : jI (V (g + k)) = ch
        · rw [if_pos (same.mpr z), decide_eq_true z, if_pos rfl]
        · rw [if_neg (fun q => z (same.mp q)), decide_eq_false z, if_neg (by decide)])
    exact key true
  · have f : wq_ V g (q - g) (w9_ s) 0 = false := by
      cases e : wq_ V g (q - g) (w9_ s) 0
      · rfl
      · have := wq_l _ _ e
        omega
    rw [if_neg (fun z => c (eq.mp z)), f]
    have fu : x_FU = 99999 + 1 := rfl
    rw [fu, f_X12_isWord_24, if_pos rfl]
    unfold f_X12_isWord_67
    rw [if_pos (by decide)]
    rfl
