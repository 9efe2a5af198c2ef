/-! ===== things, one by one, on both sides ===== -/
def KW : List Nat := [50, 51, 64, 69, 70, 65]
def W9 : List Nat := [50, 51, 52, 53, 54, 55, 56, 57, 58, 59, 60, 61, 62, 63, 64, 65, 66, 67, 68, 69, 70]
theorem iN_x {V : Nat → Int} {p m : Nat} : ∀ (l : List Nat) (i : Nat), iN_ V p m l i ≠ -1 → ∃ s, s ∈ l ∧ wq_ V p m (w9_ s) 0 = true := by
  intro l
  induction l with
  | nil => intro i h; exact absurd rfl h
  | cons s l ih =>
    intro i h
    by_cases c : wq_ V p m (w9_ s) 0 = true
    · exact ⟨s, List.mem_cons_self .., c⟩
    · have e : iN_ V p m (s :: l) i = iN_ V p m l (i + 1) := if_neg c
      rw [e] at h
      obtain ⟨s', a, b⟩ := ih (i + 1) h
      exact ⟨s', List.mem_cons_of_mem _ a, b⟩
theorem wq_s {V : Nat → Int} {p m s s' : Nat} (h : s ∈ W9) (h' : s' ∈ W9) (a : wq_ V p m (w9_ s) 0 = true) (b : wq_ V p m (w9_ s') 0 = true) : s = s' := ss_u s h s' h' (wq_u _ _ 0 a b)
theorem iN_d {V : Nat → Int} {p m : Nat} {l l' : List Nat} (h : ∀ s, s ∈ l → s ∈ W9) (h' : ∀ s, s ∈ l' → s ∈ W9) (d : ∀ s, s ∈ l → s ∉ l') : iN_ V p m l 0 = -1 ∨ iN_ V p m l' 0 = -1 := by
  by_cases c : iN_ V p m l 0 = -1
  · exact .inl c
  · by_cases c' : iN_ V p m l' 0 = -1
    · exact .inr c'
    · obtain ⟨s, a, b⟩ := iN_x _ _ c
      obtain ⟨s', a', b'⟩ := iN_x _ _ c'
      have := wq_s (h s a) (h' s' a') b b'
      exact absurd (this ▸ a') (d s a)
theorem iN_f {V : Nat → Int} {p m : Nat} : ∀ (l : List Nat) (i idx : Nat), (∀ s, s ∈ l → s ∈ W9) → l.Nodup → idx < l.length → (iN_ V p m l i = (i : Int) + idx ↔ wq_ V p m (w9_ (l.getD idx 0)) 0 = true) := by
  intro l
  induction l with
  | nil => intro i idx _ _ h; exact absurd h (by simp)
  | cons s l ih =>
    intro i idx hW nd hi
    have e : iN_ V p m (s :: l) i = if wq_ V p m (w9_ s) 0 = true then (i : Int) else iN_ V p m l (i + 1) := rfl
    have bb := iN_b (V := V) (p := p) (m := m) l (i + 1)
    rw [List.nodup_cons] at nd
    cases idx with
    | zero =>
      show _ ↔ wq_ V p m (w9_ s) 0 = true
      rw [e]
      constructor
      · intro q
        by_cases c : wq_ V p m (w9_ s) 0 = true
        · exact c
        · rw [if_neg c] at q
          omega
      · intro q
        rw [if_pos q]
        omega
    | succ idx =>
      have hi' : idx < l.length := by
        have : (s :: l).length = l.length + 1 := rfl
        omega
      have i9 := ih (i + 1) idx (fun s hs => hW s (List.mem_cons_of_mem _ hs)) nd.2 hi'
      show _ ↔ wq_ V p m (w9_ (l.getD idx 0)) 0 = true
      rw [e, ← i9]
      constructor
      · intro q
        by_cases c : wq_ V p m (w9_ s) 0 = true
        · rw [if_pos c] at q
          omega
        · rw [if_neg c] at q
          omega
      · intro q
        have w := i9.mp q
        have mem : l.getD idx 0 ∈ l := by
          rw [List.getD_eq_getElem?_getD, List.getElem?_eq_getElem hi']
          exact List.getElem_mem hi'
        by_cases c : wq_ V p m (w9_ s) 0 = true
        · have := wq_s (hW s (List.mem_cons_self ..)) (hW _ (List.mem_cons_of_mem _ mem)) c w
          rw [← this] at mem
          exact absurd mem nd.1
        · rw [if_neg c]
          omega
/-- of a word only one is so -/
theorem wcat {V : Nat → Int} {p m : Nat} (ru : Bool) :
    (iN_ V p m KW 0 = -1 ∨ (0 ≤ iN_ V p m KW 0 ∧ iN_ V p m KW 0 < 6)) ∧ (iN_ V p m (fs_ ru) 0 = -1 ∨ (0 ≤ iN_ V p m (fs_ ru) 0 ∧ iN_ V p m (fs_ ru) 0 < (if ru then 4 else 8))) ∧ (iN_ V p m (gs9_ ru) 0 = -1 ∨ (0 ≤ iN_ V p m (gs9_ ru) 0 ∧ iN_ V p m (gs9_ ru) 0 < (if ru then 1 else 2))) ∧ (iN_ V p m KW 0 = -1 ∨ iN_ V p m (fs_ ru) 0 = -1) ∧ (iN_ V p m KW 0 = -1 ∨ iN_ V p m (gs9_ ru) 0 = -1) ∧ (iN_ V p m (fs_ ru) 0 = -1 ∨ iN_ V p m (gs9_ ru) 0 = -1) := by
  have a := iN_b (V := V) (p := p) (m := m) KW 0
  have b := iN_b (V := V) (p := p) (m := m) (fs_ ru) 0
  have c := iN_b (V := V) (p := p) (m := m) (gs9_ ru) 0
  have la : KW.length = 6 := rfl
  have d1 := iN_d (V := V) (p := p) (m := m) (l := KW) (l' := fs_ ru) (by decide) (by cases ru <;> decide) (by cases ru <;> decide)
  have d2 := iN_d (V := V) (p := p) (m := m) (l := KW) (l' := gs9_ ru) (by decide) (by cases ru <;> decide) (by cases ru <;> decide)
  have d3 := iN_d (V := V) (p := p) (m := m) (l := fs_ ru) (l' := gs9_ ru) (by cases ru <;> decide) (by cases ru <;> decide) (by cases ru <;> decide)
  rw [la] at a
  have lb : ((fs_ ru).length : Int) = if ru then 4 else 8 := by cases ru <;> rfl
  have lc : ((gs9_ ru).length : Int) = if ru then 1 else 2 := by cases ru <;> rfl
  rw [lb] at b
  rw [lc] at c
  refine ⟨by omega, ?_, ?_, d1, d2, d3⟩
  · rcases b with b | b
    · exact .inl b
    · exact .inr ⟨by omega, by omega⟩
  · rcases c with c | c
    · exact .inl c
    · exact .inr ⟨by omega, by omega⟩
def fF9 (t : Int) : Int := if 1000 ≤ t ∧ t < 1020 then t - 1000 else -1
def gG9 (ru : Bool) (t : Int) : Int := if 1020 ≤ t ∧ t < 1040 then t - 1020 - (if ru then 4 else 8) + 8 else -1
theorem wc_f {V : Nat → Int} {p m : Nat} (ru : Bool) : fF9 (wc9_ V ru p m) = iN_ V p m (fs_ ru) 0 ∧ gG9 ru (wc9_ V ru p m) = (if iN_ V p m (gs9_ ru) 0 = -1 then -1 else 8 + iN_ V p m (gs9_ ru) 0) ∧ 1000 ≤ wc9_ V ru p m ∧ wc9_ V ru p m ≤ 1098 ∧ ∀ i : Int, 0 ≤ i → i < 6 → (wc9_ V ru p m = 1040 + i ↔ iN_ V p m KW 0 = i) := by
  obtain ⟨a, b, c, d1, d2, d3⟩ := wcat (V := V) (p := p) (m := m) ru
  have e : wc9_ V ru p m = if iN_ V p m KW 0 = -1 then (if iN_ V p m (fs_ ru) 0 = -1 then (if iN_ V p m (gs9_ ru) 0 = -1 then 1098 else 1020 + (if ru = true then 4 else 8) + iN_ V p m (gs9_ ru) 0) else 1000 + iN_ V p m (fs_ ru) 0) else 1040 + iN_ V p m KW 0 := rfl
  rw [e]
  generalize iN_ V p m KW 0 = k at *
  generalize iN_ V p m (fs_ ru) 0 = f at *
  generalize iN_ V p m (gs9_ ru) 0 = g at *
  unfold fF9 gG9
  cases ru <;> simp only [if_true, if_false, Bool.false_eq_true] at b c ⊢ <;> refine ⟨?_, ?_, ?_, ?_, fun i i1 i2 => ?_⟩ <;> (repeat' split) <;> omega
theorem nv_b {V : Nat → Int} {p : Nat} : ∀ k, (∀ i, i < k → 48 ≤ V (p + i) ∧ V (p + i) ≤ 57) → 0 ≤ nv9_ V p k ∧ nv9_ V p k < ((10 ^ k : Nat) : Int) := by
  intro k
  induction k with
  | zero => intro _; exact ⟨Int.le_refl _, by show (0 : Int) < ((10 ^ 0 : Nat) : Int); omega⟩
  | succ k ih =>
    intro h
    have a := ih (fun i hi => h i (by omega))
    have b := h k (by omega)
    show 0 ≤ nv9_ V p k * 10 + V (p + k) - 48 ∧ nv9_ V p k * 10 + V (p + k) - 48 < _
    rw [Nat.pow_succ]
    omega
/-- what a thing is -/
theorem th_k {V : Nat → Int} {L j : Nat} (ru : Bool) (hb : ∀ k, k < L → 0 ≤ V k ∧ V k < 256) :
    (tb_ V L j = L ∧ th_ V L ru (tb_ V L j) = 1099 ∧ re9_ V L l9_ (tb_ V L j) = tb_ V L j ∧ re9_ V L d9_ (tb_ V L j) = tb_ V L j) ∨
    (tb_ V L j < L ∧ l9_ (V (tb_ V L j)) = true ∧ d9_ (V (tb_ V L j)) = false ∧ th_ V L ru (tb_ V L j) = wc9_ V ru (tb_ V L j) (te_ V L (tb_ V L j) - tb_ V L j) ∧ re9_ V L l9_ (tb_ V L j) = te_ V L (tb_ V L j) ∧ re9_ V L d9_ (tb_ V L j) = tb_ V L j ∧ tb_ V L j < te_ V L (tb_ V L j)) ∨
    (tb_ V L j < L ∧ l9_ (V (tb_ V L j)) = false ∧ d9_ (V (tb_ V L j)) = true ∧ re9_ V L l9_ (tb_ V L j) = tb_ V L j ∧ re9_ V L d9_ (tb_ V L j) = te_ V L (tb_ V L j) ∧ tb_ V L j < te_ V L (tb_ V L j) ∧ ((te_ V L (tb_ V L j) - tb_ V L j ≤ 3 ∧ th_ V L ru (tb_ V L j) = nv9_ V (tb_ V L j) (te_ V L (tb_ V L j) - tb_ V L j) ∧ 0 ≤ th_ V L ru (tb_ V L j) ∧ th_ V L ru (tb_ V L j) < 1000) ∨ (3 < te_ V L (tb_ V L j) - tb_ V L j ∧ th_ V L ru (tb_ V L j) = 1098))) ∨
    (tb_ V L j < L ∧ l9_ (V (tb_ V L j)) = false ∧ d9_ (V (tb_ V L j)) = false ∧ V (tb_ V L j) ≠ 32 ∧ th_ V L ru (tb_ V L j) = 1100 + V (tb_ V L j) ∧ re9_ V L l9_ (tb_ V L j) = tb_ V L j ∧ re9_ V L d9_ (tb_ V L j) = tb_ V L j ∧ te_ V L (tb_ V L j) = tb_ V L j + 1) := by
  have bl := tb_L (V := V) (L := L) j
  have nb := tb_nb (V := V) (L := L) j
  generalize tb_ V L j = g at bl nb
  by_cases c0 : g = L
  · left
    refine ⟨c0, ?_, re_0 (by omega), re_0 (by omega)⟩
    unfold th_
    rw [if_pos (by omega)]
  · right
    have gl : g < L := by omega
    have nb' := nb gl
    have te := te_b (V := V) gl
    by_cases c1 : l9_ (V g) = true
    · left
      refine ⟨gl, c1, ld9 c1, ?_, ?_, re_n gl (ld9 c1), te.1⟩
      · unfold th_
        rw [if_neg (by omega), if_pos c1]
      · rw [re_y gl c1]
        unfold te_
        rw [if_neg (by omega), if_pos c1]
    · have c1' : l9_ (V g) = false := by simpa using c1
      right
      by_cases c2 : d9_ (V g) = true
      · left
        have et : te_ V L g = re9_ V L d9_ (g + 1) := by
          unfold te_
          rw [if_neg (by omega), if_neg c1, if_pos c2]
        have rd : re9_ V L d9_ g = te_ V L g := by rw [re_y gl c2, et]
        refine ⟨gl, c1', c2, re_n gl c1', rd, te.1, ?_⟩
        by_cases c3 : te_ V L g - g ≤ 3
        · left
          have ev : th_ V L ru g = nv9_ V g (te_ V L g - g) := by
            unfold th_
            rw [if_neg (by omega), if_neg c1, if_pos c2, if_pos c3]
          have dg := (re_p (V := V) (L := L) (f := d9_) _ g rfl).2.2.2
          have nb := nv_b (V := V) (p := g) (te_ V L g - g) (fun i hi => by
            have := dg (g + i) (by omega) (by omega)
            unfold d9_ at this
            rw [decide_eq_true_iff] at this
            exact this)
          have p3 : 10 ^ (te_ V L g - g) ≤ 10 ^ 3 := Nat.pow_le_pow_right (by omega) c3
          exact ⟨c3, ev, by rw [ev]; exact nb.1, by rw [ev]; omega⟩
        · right
          refine ⟨by omega, ?_⟩
          unfold th_
          rw [if_neg (by omega), if_neg c1, if_pos c2, if_neg c3]
      · have c2' : d9_ (V g) = false := by simpa using c2
        right
        refine ⟨gl, c1', c2', ?_, ?_, re_n gl c1', re_n gl c2', ?_⟩
        · intro q
          unfold b9_ at nb'
          rw [q] at nb'
          exact absurd nb' (by decide)
        · unfold th_
          rw [if_neg (by omega), if_neg c1, if_neg c2]
        · unfold te_
          rw [if_neg (by omega), if_neg c1, if_neg c2]
theorem sl_p : ∀ s : Fin 71, 0 < (w9_ s.val).length := by decide +kernel
theorem wq_0 {V : Nat → Int} {g s : Nat} (hs : s < 71) : wq_ V g 0 (w9_ s) 0 = false := by
  cases e : wq_ V g 0 (w9_ s) 0
  · rfl
  · have := wq_l _ _ e
    have sl : 0 < (w9_ s).length := sl_p ⟨s, hs⟩
    omega
/-- a sign -/
theorem r_sign {x L : Nat} {V : Nat → Int} {ru : Bool} {h0 h : XH} {E : List (Int × Int)} {d p g j : Nat} (T : TpR x V L ru h0) (R : RS9 x h0 h p g E d) (hp : p ≤ L) (hj : re9_ V L b9_ p = tb_ V L j) {c : Int} (c1 : 33 ≤ c) (c2 : c ≤ 126) (c3 : l9_ c = false) (c4 : d9_ c = false) :
    ∃ h' p', f_X12_sign x h (jI c) = some (bb9 (decide (th_ V L ru (tb_ V L j) = 1100 + c)), h') ∧ RS9 x h0 h' p' (tb_ V L j) E d ∧ p' ≤ L ∧ re9_ V L b9_ p' = tb_ V L (if th_ V L ru (tb_ V L j) = 1100 + c then j + 1 else j) := by
  obtain ⟨h1, a1, a2⟩ := r_bla T _ p g h rfl hp R
  rw [hj] at a2
  have bl := tb_L (V := V) (L := L) j
  have ia := r_isAt T a2 bl (lo := c) (hi := c) (by omega) (by omega) (by omega)
  have tk := th_k (V := V) (L := L) (j := j) ru T.b
  have rb : re9_ V L b9_ (tb_ V L j) = tb_ V L j := by
    by_cases q : tb_ V L j < L
    · exact re_n q (tb_nb j q)
    · exact re_0 (by omega)
  have iff : (tb_ V L j < L ∧ c ≤ V (tb_ V L j) ∧ V (tb_ V L j) ≤ c) ↔ th_ V L ru (tb_ V L j) = 1100 + c := by
    rcases tk with ⟨k1, k2, -⟩ | ⟨k1, k2, k3, k4, -⟩ | ⟨k1, k2, k3, -, -, -, k4⟩ | ⟨k1, k2, k3, k4, k5, -⟩
    · rw [k2]
      omega
    · have w := wc_f (V := V) (p := tb_ V L j) (m := te_ V L (tb_ V L j) - tb_ V L j) ru
      rw [k4]
      constructor
      · intro q
        rw [show V (tb_ V L j) = c by omega, c3] at k2
        exact absurd k2 (by decide)
      · intro q
        omega
    · constructor
      · intro q
        rw [show V (tb_ V L j) = c by omega, c4] at k3
        exact absurd k3 (by decide)
      · intro q
        omega
    · rw [k5]
      omega
  unfold f_X12_sign
  rw [a1, Option.bind_some, ia, Option.bind_some]
  by_cases q : th_ V L ru (tb_ V L j) = 1100 + c
  · have q' := iff.mpr q
    rw [decide_eq_true q', if_neg b9t, xl_, a2.pt, jI_s (tb_ V L j), decide_eq_true q, if_pos q]
    refine ⟨_, tb_ V L j + 1, rfl, a2.mv (tb_ V L j + 1), by omega, ?_⟩
    have et : te_ V L (tb_ V L j) = tb_ V L j + 1 := by
      rcases tk with ⟨k1, k2, -⟩ | ⟨k1, k2, k3, k4, -⟩ | ⟨k1, k2, k3, -, -, -, k4⟩ | ⟨k1, k2, k3, k4, k5, k6, k7, k8⟩
      · omega
      · have w := wc_f (V := V) (p := tb_ V L j) (m := te_ V L (tb_ V L j) - tb_ V L j) ru
        omega
      · omega
      · exact k8
    rw [← et]
    rfl
  · rw [decide_eq_false (fun z => q (iff.mp z)), if_pos b9f, decide_eq_false q, if_neg q]
    exact ⟨h1, tb_ V L j, rfl, a2, bl, rb⟩
/-- a word -/
theorem r_word {x L : Nat} {V : Nat → Int} {ru : Bool} {h0 h : XH} {E : List (Int × Int)} {d p g j : Nat} (T : TpR x V L ru h0) (R : RS9 x h0 h p g E d) (hp : p ≤ L) (hj : re9_ V L b9_ p = tb_ V L j) :
    ∃ h' q, f_X12_letters x h = some h' ∧ RS9 x h0 h' q (tb_ V L j) E d ∧ q ≤ L ∧ tb_ V L j ≤ q ∧ f_X12_factAt x h' = some (jI (fF9 (th_ V L ru (tb_ V L j)))) ∧ f_X12_tagAt x h' = some (jI (gG9 ru (th_ V L ru (tb_ V L j)))) ∧ (∀ i, i < 6 → f_X12_isWord x h' (KW.getD i 0) = some (bb9 (decide (th_ V L ru (tb_ V L j) = 1040 + i)))) ∧ (1000 ≤ th_ V L ru (tb_ V L j) → th_ V L ru (tb_ V L j) < 1098 → q ≠ tb_ V L j ∧ re9_ V L b9_ q = tb_ V L (j + 1)) ∧ (th_ V L ru (tb_ V L j) < 1000 ∨ 1099 ≤ th_ V L ru (tb_ V L j) → q = tb_ V L j) ∧ re9_ V L b9_ (tb_ V L j) = tb_ V L j := by
  obtain ⟨h1, a1, a2⟩ := r_let T hp R
  rw [hj] at a2
  have bl := tb_L (V := V) (L := L) j
  have tk := th_k (V := V) (L := L) (j := j) ru T.b
  have rb : re9_ V L b9_ (tb_ V L j) = tb_ V L j := by
    by_cases q : tb_ V L j < L
    · exact re_n q (tb_nb j q)
    · exact re_0 (by omega)
  have rl := re_p (V := V) (L := L) (f := l9_) _ (tb_ V L j) rfl
  have ql := rl.2.1 bl
  have e13 : h1.1 (x + 64) 13 = bb9 ru := by rw [a2.fm 13 (by omega) (by omega) (by omega) (by omega)]; exact T.r
  have iw : ∀ s, s < 71 → 50 ≤ s → f_X12_isWord x h1 s = some (bb9 (wq_ V (tb_ V L j) (re9_ V L l9_ (tb_ V L j) - tb_ V L j) (w9_ s) 0)) := fun s h1 h2 => r_isW T a2 rl.1 ql h1 h2
  have bbc : ∀ {α : Type} (b : Bool) (u v : α), (if bb9 b = 0 then u else v) = if b = true then v else u := fun b u v => by cases b <;> rfl
  have fa : f_X12_factAt x h1 = some (jI (iN_ V (tb_ V L j) (re9_ V L l9_ (tb_ V L j) - tb_ V L j) (fs_ ru) 0)) := by
    unfold f_X12_factAt
    rw [e13, iw 56 (by omega) (by omega), iw 57 (by omega) (by omega), iw 58 (by omega) (by omega), iw 59 (by omega) (by omega), iw 60 (by omega) (by omega), iw 61 (by omega) (by omega), iw 62 (by omega) (by omega), iw 63 (by omega) (by omega), iw 52 (by omega) (by omega), iw 53 (by omega) (by omega), iw 54 (by omega) (by omega), iw 55 (by omega) (by omega)]
    simp only [Option.bind_some, bbc]
    cases ru
    · simp only [fs_, iN_, Bool.false_eq_true, if_false]
      repeat' split
      all_goals rfl
    · simp only [fs_, iN_, if_true]
      repeat' split
      all_goals rfl
  have ta : f_X12_tagAt x h1 = some (jI (if iN_ V (tb_ V L j) (re9_ V L l9_ (tb_ V L j) - tb_ V L j) (gs9_ ru) 0 = -1 then -1 else 8 + iN_ V (tb_ V L j) (re9_ V L l9_ (tb_ V L j) - tb_ V L j) (gs9_ ru) 0)) := by
    unfold f_X12_tagAt
    rw [e13, iw 67 (by omega) (by omega), iw 68 (by omega) (by omega), iw 66 (by omega) (by omega)]
    simp only [Option.bind_some, bbc]
    cases ru
    · simp only [gs9_, iN_, Bool.false_eq_true, if_false]
      repeat' split
      all_goals first | rfl | (exfalso; simp_all)
    · simp only [gs9_, iN_, if_true]
      repeat' split
      all_goals first | rfl | (exfalso; simp_all)
  have kw : ∀ i, i < 6 → KW.getD i 0 < 71 ∧ 50 ≤ KW.getD i 0 := by decide
  have no : ∀ (hq : re9_ V L l9_ (tb_ V L j) = tb_ V L j) (ho : th_ V L ru (tb_ V L j) < 1000 ∨ 1098 ≤ th_ V L ru (tb_ V L j)), ∃ h' q, f_X12_letters x h = some h' ∧ RS9 x h0 h' q (tb_ V L j) E d ∧ q ≤ L ∧ tb_ V L j ≤ q ∧ f_X12_factAt x h' = some (jI (fF9 (th_ V L ru (tb_ V L j)))) ∧ f_X12_tagAt x h' = some (jI (gG9 ru (th_ V L ru (tb_ V L j)))) ∧ (∀ i, i < 6 → f_X12_isWord x h' (KW.getD i 0) = some (bb9 (decide (th_ V L ru (tb_ V L j) = 1040 + i)))) ∧ (1000 ≤ th_ V L ru (tb_ V L j) → th_ V L ru (tb_ V L j) < 1098 → q ≠ tb_ V L j ∧ re9_ V L b9_ q = tb_ V L (j + 1)) ∧ (th_ V L ru (tb_ V L j) < 1000 ∨ 1099 ≤ th_ V L ru (tb_ V L j) → q = tb_ V L j) ∧ re9_ V L b9_ (tb_ V L j) = tb_ V L j := fun hq ho => by
    rw [hq, Nat.sub_self] at fa ta iw
    rw [hq] at a2
    have z : ∀ l : List Nat, (∀ s, s ∈ l → s < 71) → ∀ i, iN_ V (tb_ V L j) 0 l i = -1 := fun l => by
      induction l with
      | nil => intros; rfl
      | cons s l ih =>
        intro hl i
        unfold iN_
        rw [wq_0 (hl s (List.mem_cons_self ..)), if_neg (by decide)]
        exact ih (fun s hs => hl s (List.mem_cons_of_mem _ hs)) _
    rw [z _ (by cases ru <;> decide)] at fa
    rw [z _ (by cases ru <;> decide), if_pos rfl] at ta
    refine ⟨h1, tb_ V L j, a1, a2, bl, Nat.le_refl _, ?_, ?_, fun i hi => ?_, fun q1 q2 => absurd q2 (by omega), fun _ => rfl, rb⟩
    · rw [fa]
      unfold fF9
      rw [if_neg (by omega)]
    · rw [ta]
      unfold gG9
      rw [if_neg (by omega)]
    · rw [iw _ (kw i hi).1 (kw i hi).2, wq_0 (kw i hi).1, decide_eq_false (by omega)]
  rcases tk with ⟨k1, k2, k3, -⟩ | ⟨k1, k2, k3, k4, k5, k6, k7⟩ | ⟨k1, k2, k3, k5, -, -, k4⟩ | ⟨k1, k2, k3, k4, k5, k6, k7, k8⟩
  · exact no k3 (by omega)
  · rw [k5] at fa ta iw a2 ql
    have w := wc_f (V := V) (p := tb_ V L j) (m := te_ V L (tb_ V L j) - tb_ V L j) ru
    rw [← k4] at w
    refine ⟨h1, te_ V L (tb_ V L j), a1, a2, ql, by omega, ?_, ?_, fun i hi => ?_, fun q1 q2 => ⟨by omega, rfl⟩, fun q => by omega, rb⟩
    · rw [fa, w.1]
    · rw [ta, w.2.1]
    · have f := iN_f (V := V) (p := tb_ V L j) (m := te_ V L (tb_ V L j) - tb_ V L j) KW 0 i (by decide) (by decide) hi
      have g := w.2.2.2.2 (i : Int) (by omega) (by omega)
      rw [iw _ (kw i hi).1 (kw i hi).2]
      congr 2
      rw [Bool.eq_iff_iff, decide_eq_true_iff, ← f, g]
      omega
  · exact no k5 (by omega)
  · have := T.b _ k1
    exact no k6 (by omega)
theorem r_pass {x L : Nat} {V : Nat → Int} {ru : Bool} {h0 h : XH} {E : List (Int × Int)} {d p g j i : Nat} (T : TpR x V L ru h0) (R : RS9 x h0 h p g E d) (hp : p ≤ L) (hj : re9_ V L b9_ p = tb_ V L j) (hi : i < 6) :
    ∃ h' p', f_X12_passes x h (KW.getD i 0) = some (bb9 (decide (th_ V L ru (tb_ V L j) = 1040 + i)), h') ∧ RS9 x h0 h' p' (tb_ V L j) E d ∧ p' ≤ L ∧ re9_ V L b9_ p' = tb_ V L (if th_ V L ru (tb_ V L j) = 1040 + i then j + 1 else j) := by
  obtain ⟨h1, q, a1, a2, a3, a4, a5, a6, a7, a8, a9, a10⟩ := r_word T R hp hj
  unfold f_X12_passes
  rw [a1, Option.bind_some, a7 i hi, Option.bind_some]
  by_cases c : th_ V L ru (tb_ V L j) = 1040 + i
  · rw [decide_eq_true c, if_neg b9t, if_pos c]
    exact ⟨h1, q, rfl, a2, a3, (a8 (by omega) (by omega)).2⟩
  · rw [decide_eq_false c, if_pos b9f, if_neg c, xl_, a2.bg]
    exact ⟨_, tb_ V L j, rfl, a2.mv _, tb_L j, a10⟩
/-- a number -/
theorem r_num {x L : Nat} {V : Nat → Int} {ru : Bool} {h0 h : XH} {E : List (Int × Int)} {d p g j : Nat} (T : TpR x V L ru h0) (R : RS9 x h0 h p g E d) (hp : p ≤ L) (hj : re9_ V L b9_ p = tb_ V L j) :
    ∃ h' p', f_X12_number x h = some (jI (if th_ V L ru (tb_ V L j) < 1000 then th_ V L ru (tb_ V L j) else -1), h') ∧ RS9 x h0 h' p' (tb_ V L j) E d ∧ p' ≤ L ∧ (th_ V L ru (tb_ V L j) < 1000 → re9_ V L b9_ p' = tb_ V L (j + 1)) ∧ 0 ≤ th_ V L ru (tb_ V L j) := by
  have L4 := T.L4
  obtain ⟨h1, a1, a2⟩ := r_bla T _ p g h rfl hp R
  rw [hj] at a2
  have bl := tb_L (V := V) (L := L) j
  have tk := th_k (V := V) (L := L) (j := j) ru T.b
  have rd := re_p (V := V) (L := L) (f := d9_) _ (tb_ V L j) rfl
  have ql := rd.2.1 bl
  have key : ∀ k m q (h : XH), L - q = k → q ≤ L → tb_ V L j ≤ q → k < m → RS9 x h0 h q (tb_ V L j) E d → (∀ i, tb_ V L j ≤ i → i < q → d9_ (V i) = true) → ∃ h', f_X12_number_6 x m h (jI (nv9_ V (tb_ V L j) (if q - tb_ V L j ≤ 3 then q - tb_ V L j else 3))) = some (jI (if re9_ V L d9_ q = tb_ V L j then -1 else if re9_ V L d9_ q - tb_ V L j ≤ 3 then nv9_ V (tb_ V L j) (re9_ V L d9_ q - tb_ V L j) else -1), h') ∧ RS9 x h0 h' (re9_ V L d9_ q) (tb_ V L j) E d := by
    intro k
    have stop : ∀ m q (h : XH), q ≤ L → tb_ V L j ≤ q → RS9 x h0 h q (tb_ V L j) E d → re9_ V L d9_ q = q → f_X12_isAt x h 48 57 = some (bb9 false) → ∃ h', f_X12_number_6 x (m + 1) h (jI (nv9_ V (tb_ V L j) (if q - tb_ V L j ≤ 3 then q - tb_ V L j else 3))) = some (jI (if re9_ V L d9_ q = tb_ V L j then -1 else if re9_ V L d9_ q - tb_ V L j ≤ 3 then nv9_ V (tb_ V L j) (re9_ V L d9_ q - tb_ V L j) else -1), h') ∧ RS9 x h0 h' (re9_ V L d9_ q) (tb_ V L j) E d := fun m q h hq hg R e ia => by
      refine ⟨h, ?_, by rw [e]; exact R⟩
      rw [f_X12_number_6, ia, Option.bind_some, if_pos b9f, R.pt, R.bg, e, jI_sub]
      have e1 : jI (q : Int) = jI ((tb_ V L j : Nat) : Int) ↔ q = tb_ V L j := by
        rw [jI_eq (by omega) (by omega) (by omega) (by omega)]
        omega
      have e2 : jI ((q : Int) - (tb_ V L j : Nat)) ≤ (3 : Int32) ↔ q - tb_ V L j ≤ 3 := by
        rw [show (3 : Int32) = jI 3 from rfl, jI_le (by omega) (by omega) (by omega) (by omega)]
        omega
      simp only [e1, e2]
      by_cases c : q = tb_ V L j
      · rw [if_pos c, if_pos c]
        rfl
      · rw [if_neg c, if_neg c]
        by_cases c' : q - tb_ V L j ≤ 3
        · rw [if_pos c', if_pos c', if_pos c']
        · rw [if_neg c', if_neg c']
          rfl
    induction k with
    | zero =>
      intro m q h hk hq hg hm R hd
      obtain ⟨m, rfl⟩ : ∃ m', m = m' + 1 := ⟨m - 1, by omega⟩
      have ia := r_isAt T R hq (lo := 48) (hi := 57) (by omega) (by omega) (by omega)
      rw [decide_eq_false (by omega)] at ia
      exact stop m q h hq hg R (re_0 (by omega)) ia
    | succ k ih =>
      intro m q h hk hq hg hm R hd
      obtain ⟨m, rfl⟩ : ∃ m', m = m' + 1 := ⟨m - 1, by omega⟩
      have ia := r_isAt T R hq (lo := 48) (hi := 57) (by omega) (by omega) (by omega)
      by_cases c : 48 ≤ V q ∧ V q ≤ 57
      · rw [decide_eq_true (by omega)] at ia
        have rn := ih m (q + 1) (x_i h (x + 64) 6 (jI ((q + 1 : Nat) : Int))) (by omega) (by omega) (by omega) (by omega) (R.mv (q + 1)) (fun i i1 i2 => by
          by_cases z : i = q
          · rw [z]; exact decide_eq_true c
          · exact hd i i1 (by omega))
        rw [← re_y (i := q) (by omega) (decide_eq_true c)] at rn
        obtain ⟨h', k1, k2⟩ := rn
        refine ⟨h', ?_, k2⟩
        have e2 : (3 : Int32) ≤ jI ((q : Int) - (tb_ V L j : Nat)) ↔ 3 ≤ q - tb_ V L j := by
          rw [show (3 : Int32) = jI 3 from rfl, jI_le (by omega) (by omega) (by omega) (by omega)]
          omega
        rw [f_X12_number_6, show f_X12_isAt x h 48 57 = _ from ia, Option.bind_some, if_neg b9t, R.pt, R.bg, jI_sub]
        unfold f_X12_number_51
        rw [R.pt, jI_s q]
        simp only [e2, xl_]
        by_cases z : 3 ≤ q - tb_ V L j
        · rw [if_pos z, ← k1]
          congr 3
          by_cases y : q - tb_ V L j ≤ 3
          · rw [if_pos y, if_neg (by omega), show q - tb_ V L j = 3 by omega]
          · rw [if_neg y, if_neg (by omega)]
        · have ev : h.1 (x + 67) q = jI (if V q < 128 then V q else V q - 256) := by rw [R.fr _ (by omega) (by omega)]; exact T.v q (by omega)
          rw [if_neg z, if_pos (jI_b (by omega) (by omega) (by omega)), nat_ (by omega), ev, if_pos (by omega), ← k1, show (10 : Int32) = jI 10 from rfl, show (48 : Int32) = jI 48 from rfl, jI_mul, jI_add, jI_sub]
          congr 2
          rw [if_pos (by omega), if_pos (by omega), show q + 1 - tb_ V L j = (q - tb_ V L j) + 1 by omega]
          show _ = nv9_ V (tb_ V L j) (q - tb_ V L j) * 10 + V (tb_ V L j + (q - tb_ V L j)) - 48
          rw [show tb_ V L j + (q - tb_ V L j) = q by omega]
          omega
      · rw [decide_eq_false (by omega)] at ia
        exact stop m q h hq hg R (re_n (by omega) (decide_eq_false c)) ia
  obtain ⟨h2, b1, b2⟩ := key _ x_FU (tb_ V L j) h1 rfl bl (Nat.le_refl _) (by show L - _ < 100000; omega) a2 (fun i i1 i2 => by omega)
  rw [Nat.sub_self, if_pos (by omega)] at b1
  refine ⟨h2, re9_ V L d9_ (tb_ V L j), ?_, b2, ql, ?_, ?_⟩
  · unfold f_X12_number
    rw [a1, Option.bind_some, show f_X12_number_6 x x_FU h1 0 = _ from b1]
    congr 3
    rcases tk with ⟨k1, k2, k3, k9⟩ | ⟨k1, k2, k3, k4, k5, k6, k7⟩ | ⟨k1, k2, k3, k5, k6, k7, k4⟩ | ⟨k1, k2, k3, k4, k5, k6, k7, k8⟩
    · rw [k9, if_pos rfl, if_neg (by omega)]
    · have w := wc_f (V := V) (p := tb_ V L j) (m := te_ V L (tb_ V L j) - tb_ V L j) ru
      rw [k6, if_pos rfl, if_neg (by omega)]
    · rw [k6, if_neg (by omega)]
      rcases k4 with ⟨q1, q2, q3, q4⟩ | ⟨q1, q2⟩
      · rw [if_pos q1, if_pos q4, q2]
      · rw [if_neg (by omega), if_neg (by omega)]
    · have := T.b _ k1
      rw [k7, if_pos rfl, if_neg (by omega)]
  · intro lt
    rcases tk with ⟨k1, k2, k3, k9⟩ | ⟨k1, k2, k3, k4, k5, k6, k7⟩ | ⟨k1, k2, k3, k5, k6, k7, k4⟩ | ⟨k1, k2, k3, k4, k5, k6, k7, k8⟩
    · omega
    · have w := wc_f (V := V) (p := tb_ V L j) (m := te_ V L (tb_ V L j) - tb_ V L j) ru
      omega
    · rw [k6]
      rfl
    · have := T.b _ k1
      omega
  · rcases tk with ⟨k1, k2, k3, k9⟩ | ⟨k1, k2, k3, k4, k5, k6, k7⟩ | ⟨k1, k2, k3, k5, k6, k7, k4⟩ | ⟨k1, k2, k3, k4, k5, k6, k7, k8⟩
    · omega
    · have w := wc_f (V := V) (p := tb_ V L j) (m := te_ V L (tb_ V L j) - tb_ V L j) ru
      omega
    · omega
    · have := T.b _ k1
      omega
