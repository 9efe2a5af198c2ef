/-! ===== the tape: runs, things, words ===== -/
def rn9_ (V : Nat → Int) (f : Int → Bool) : Nat → Nat → Nat
  | 0, i => i
  | d + 1, i => if f (V i) = true then rn9_ V f d (i + 1) else i
def re9_ (V : Nat → Int) (L : Nat) (f : Int → Bool) (i : Nat) : Nat := rn9_ V f (L - i) i
theorem re_0 {V : Nat → Int} {L i : Nat} {f : Int → Bool} (h : L ≤ i) : re9_ V L f i = i := by
  unfold re9_
  rw [show L - i = 0 by omega]
  rfl
theorem re_y {V : Nat → Int} {L i : Nat} {f : Int → Bool} (h : i < L) (hf : f (V i) = true) : re9_ V L f i = re9_ V L f (i + 1) := by
  unfold re9_
  rw [show L - i = (L - (i + 1)) + 1 by omega]
  show (if f (V i) = true then _ else _) = _
  rw [if_pos hf]
theorem re_n {V : Nat → Int} {L i : Nat} {f : Int → Bool} (h : i < L) (hf : f (V i) = false) : re9_ V L f i = i := by
  unfold re9_
  rw [show L - i = (L - (i + 1)) + 1 by omega]
  show (if f (V i) = true then _ else _) = _
  rw [if_neg (by rw [hf]; decide)]
theorem re_p {V : Nat → Int} {L : Nat} {f : Int → Bool} : ∀ d i, L - i = d → i ≤ re9_ V L f i ∧ (i ≤ L → re9_ V L f i ≤ L) ∧ (re9_ V L f i < L → f (V (re9_ V L f i)) = false) ∧ ∀ k, i ≤ k → k < re9_ V L f i → f (V k) = true := by
  intro d
  induction d with
  | zero =>
    intro i h
    rw [re_0 (by omega)]
    exact ⟨by omega, fun h => h, fun q => by omega, fun k a b => by omega⟩
  | succ d ih =>
    intro i h
    by_cases c : f (V i) = true
    · rw [re_y (by omega) c]
      obtain ⟨a, b, e, g⟩ := ih (i + 1) (by omega)
      refine ⟨by omega, fun _ => b (by omega), e, fun k k1 k2 => ?_⟩
      by_cases q : k = i
      · rw [q]; exact c
      · exact g k (by omega) k2
    · have c' : f (V i) = false := by simpa using c
      rw [re_n (by omega) c']
      exact ⟨by omega, fun h => h, fun _ => c', fun k a b => by omega⟩
def b9_ (c : Int) : Bool := decide (c = 32)
def l9_ (c : Int) : Bool := decide (97 ≤ c ∧ c ≤ 122)
def d9_ (c : Int) : Bool := decide (48 ≤ c ∧ c ≤ 57)
def te_ (V : Nat → Int) (L p : Nat) : Nat := if L ≤ p then p else if l9_ (V p) = true then re9_ V L l9_ (p + 1) else if d9_ (V p) = true then re9_ V L d9_ (p + 1) else p + 1
def tb_ (V : Nat → Int) (L : Nat) : Nat → Nat
  | 0 => re9_ V L b9_ 0
  | j + 1 => re9_ V L b9_ (te_ V L (tb_ V L j))
theorem te_b {V : Nat → Int} {L p : Nat} (h : p < L) : p < te_ V L p ∧ te_ V L p ≤ L := by
  unfold te_
  rw [if_neg (by omega)]
  by_cases c : l9_ (V p) = true
  · rw [if_pos c]
    have a := re_p (V := V) (L := L) (f := l9_) _ (p + 1) rfl
    have := a.2.1 (by omega)
    omega
  · rw [if_neg c]
    by_cases d : d9_ (V p) = true
    · rw [if_pos d]
      have a := re_p (V := V) (L := L) (f := d9_) _ (p + 1) rfl
      have := a.2.1 (by omega)
      omega
    · rw [if_neg d]
      omega
theorem te_L {V : Nat → Int} {L p : Nat} (h : p ≤ L) : p ≤ te_ V L p ∧ te_ V L p ≤ L := by
  by_cases c : p < L
  · have := te_b (V := V) c
    omega
  · unfold te_
    rw [if_pos (by omega)]
    omega
theorem tb_L {V : Nat → Int} {L : Nat} : ∀ j, tb_ V L j ≤ L := by
  intro j
  induction j with
  | zero => exact (re_p (V := V) (L := L) (f := b9_) _ 0 rfl).2.1 (by omega)
  | succ j ih => exact (re_p (V := V) (L := L) (f := b9_) _ (te_ V L (tb_ V L j)) rfl).2.1 (te_L ih).2
theorem tb_s {V : Nat → Int} {L : Nat} (j : Nat) : te_ V L (tb_ V L j) ≤ tb_ V L (j + 1) := (re_p (V := V) (L := L) (f := b9_) _ (te_ V L (tb_ V L j)) rfl).1
theorem tb_nb {V : Nat → Int} {L : Nat} : ∀ j, tb_ V L j < L → b9_ (V (tb_ V L j)) = false := by
  intro j
  cases j with
  | zero => exact (re_p (V := V) (L := L) (f := b9_) _ 0 rfl).2.2.1
  | succ j => exact (re_p (V := V) (L := L) (f := b9_) _ (te_ V L (tb_ V L j)) rfl).2.2.1
theorem tb_g {V : Nat → Int} {L : Nat} : ∀ j, tb_ V L j < L → j ≤ tb_ V L j := by
  intro j
  induction j with
  | zero => intro _; omega
  | succ j ih =>
    intro h
    have a := tb_s (V := V) (L := L) j
    have b := te_L (V := V) (tb_L (V := V) (L := L) j)
    have := ih (by omega)
    have := te_b (V := V) (L := L) (p := tb_ V L j) (by omega)
    omega
theorem tb_m {V : Nat → Int} {L : Nat} (j : Nat) (h : tb_ V L j = L) : tb_ V L (j + 1) = L := by
  have a := tb_s (V := V) (L := L) j
  have b := te_L (V := V) (tb_L (V := V) (L := L) j)
  have c := tb_L (V := V) (L := L) (j + 1)
  omega
theorem tb_ex {V : Nat → Int} {L : Nat} : ∃ n, n ≤ L ∧ tb_ V L n = L ∧ ∀ j, j < n → tb_ V L j < L := by
  have key : ∀ m, (∃ n, n ≤ m ∧ tb_ V L n = L ∧ ∀ j, j < n → tb_ V L j < L) ∨ ∀ j, j ≤ m → tb_ V L j < L := by
    intro m
    induction m with
    | zero =>
      have := tb_L (V := V) (L := L) 0
      by_cases c : tb_ V L 0 = L
      · exact .inl ⟨0, by omega, c, fun j hj => by omega⟩
      · exact .inr (fun j hj => by rw [show j = 0 by omega]; omega)
    | succ m ih =>
      rcases ih with ⟨n, a, b, c⟩ | h
      · exact .inl ⟨n, by omega, b, c⟩
      · have := tb_L (V := V) (L := L) (m + 1)
        by_cases c : tb_ V L (m + 1) = L
        · exact .inl ⟨m + 1, by omega, c, fun j hj => h j (by omega)⟩
        · refine .inr (fun j hj => ?_)
          by_cases e : j = m + 1
          · rw [e]; omega
          · exact h j (by omega)
  rcases key L with h | h
  · exact h
  · have a := h L (by omega)
    have b := tb_g (V := V) L a
    omega
/-! words -/
def wq_ (V : Nat → Int) (p m : Nat) : List Int32 → Nat → Bool
  | [], k => decide (k = m)
  | c :: cs, k => (decide (k < m) && decide (jI (V (p + k)) = c)) && wq_ V p m cs (k + 1)
def iw_ (V : Nat → Int) (p m : Nat) : List Int32 → Nat → Nat → Bool → Int
  | [], v4, v5, v6 => if (v6 && decide (v5 = m)) = true then v4 else -1
  | c :: cs, v4, v5, v6 => if c = 32 then (if (v6 && decide (v5 = m)) = true then v4 else iw_ V p m cs (v4 + 1) 0 true) else iw_ V p m cs v4 (v5 + 1) (v6 && (decide (v5 < m) && decide (jI (V (p + v5)) = c)))
theorem iw_w {V : Nat → Int} {p m : Nat} : ∀ (w : List Int32) (v4 v5 : Nat) (v6 : Bool) (cs : List Int32), (∀ c, c ∈ w → c ≠ 32) → iw_ V p m (w ++ 32 :: cs) v4 v5 v6 = if (v6 && wq_ V p m w v5) = true then (v4 : Int) else iw_ V p m cs (v4 + 1) 0 true := by
  intro w
  induction w with
  | nil =>
    intro v4 v5 v6 cs _
    show (if (32 : Int32) = 32 then _ else _) = _
    rw [if_pos rfl]
    rfl
  | cons c w ih =>
    intro v4 v5 v6 cs h
    show (if c = 32 then _ else iw_ V p m (w ++ 32 :: cs) v4 (v5 + 1) (v6 && (decide (v5 < m) && decide (jI (V (p + v5)) = c)))) = _
    rw [if_neg (h c (List.mem_cons_self ..)), ih _ _ _ _ (fun c' hc => h c' (List.mem_cons_of_mem _ hc)), Bool.and_assoc]
    rfl
theorem iw_e {V : Nat → Int} {p m : Nat} : ∀ (w : List Int32) (v4 v5 : Nat) (v6 : Bool), (∀ c, c ∈ w → c ≠ 32) → iw_ V p m w v4 v5 v6 = if (v6 && wq_ V p m w v5) = true then (v4 : Int) else -1 := by
  intro w
  induction w with
  | nil => intros; rfl
  | cons c w ih =>
    intro v4 v5 v6 h
    show (if c = 32 then _ else iw_ V p m w v4 (v5 + 1) (v6 && (decide (v5 < m) && decide (jI (V (p + v5)) = c)))) = _
    rw [if_neg (h c (List.mem_cons_self ..)), ih _ _ _ (fun c' hc => h c' (List.mem_cons_of_mem _ hc)), Bool.and_assoc]
    rfl
theorem wq_u {V : Nat → Int} {p m : Nat} : ∀ (w w' : List Int32) (k : Nat), wq_ V p m w k = true → wq_ V p m w' k = true → w = w' := by
  intro w
  induction w with
  | nil =>
    intro w' k h h'
    cases w' with
    | nil => rfl
    | cons c w' =>
      have a : k = m := by simpa [wq_] using h
      have b : k < m := by
        have : ((decide (k < m) && decide (jI (V (p + k)) = c)) && wq_ V p m w' (k + 1)) = true := h'
        rw [Bool.and_eq_true, Bool.and_eq_true, decide_eq_true_iff] at this
        exact this.1.1
      omega
  | cons c w ih =>
    intro w' k h h'
    have a : ((decide (k < m) && decide (jI (V (p + k)) = c)) && wq_ V p m w (k + 1)) = true := h
    rw [Bool.and_eq_true, Bool.and_eq_true, decide_eq_true_iff, decide_eq_true_iff] at a
    cases w' with
    | nil =>
      have b : k = m := by simpa [wq_] using h'
      omega
    | cons c' w' =>
      have b : ((decide (k < m) && decide (jI (V (p + k)) = c')) && wq_ V p m w' (k + 1)) = true := h'
      rw [Bool.and_eq_true, Bool.and_eq_true, decide_eq_true_iff, decide_eq_true_iff] at b
      rw [ih w' (k + 1) a.2 b.2, ← a.1.2, ← b.1.2]
/-- the words by name -/
def w9_ (s : Nat) : List Int32 := x_ss.getD s []
def iN_ (V : Nat → Int) (p m : Nat) : List Nat → Nat → Int
  | [], _ => -1
  | s :: l, i => if wq_ V p m (w9_ s) 0 = true then (i : Int) else iN_ V p m l (i + 1)
theorem iw_1 {V : Nat → Int} {p m : Nat} (s : Nat) (i : Nat) (h : ∀ c, c ∈ w9_ s → c ≠ 32) : iw_ V p m (w9_ s) i 0 true = iN_ V p m [s] i := by
  rw [iw_e _ _ _ _ h, Bool.true_and]
  rfl
theorem iw_2 {V : Nat → Int} {p m : Nat} (s : Nat) (l : List Nat) (cs : List Int32) (i : Nat) (h : ∀ c, c ∈ w9_ s → c ≠ 32) (hc : ∀ i, iw_ V p m cs i 0 true = iN_ V p m l i) : iw_ V p m (w9_ s ++ 32 :: cs) i 0 true = iN_ V p m (s :: l) i := by
  rw [iw_w _ _ _ _ _ h, Bool.true_and, hc]
  rfl
def jw_ : List Nat → List Int32
  | [] => []
  | [s] => w9_ s
  | s :: l => w9_ s ++ 32 :: jw_ l
theorem iw_j {V : Nat → Int} {p m : Nat} : ∀ (l : List Nat) (i : Nat), l ≠ [] → (∀ s, s ∈ l → ∀ c, c ∈ w9_ s → c ≠ 32) → iw_ V p m (jw_ l) i 0 true = iN_ V p m l i := by
  intro l
  induction l with
  | nil => intro i h; exact absurd rfl h
  | cons s l ih =>
    intro i _ h
    cases l with
    | nil => exact iw_1 s i (h s (List.mem_cons_self ..))
    | cons s' l => exact iw_2 s (s' :: l) _ i (h s (List.mem_cons_self ..)) (fun i => ih i (by simp) (fun s hs => h s (List.mem_cons_of_mem _ hs)))
theorem ss_0 : w9_ 0 = jw_ [50, 51, 64, 69, 70, 65] := by decide
theorem ss_1 : w9_ 1 = jw_ [56, 57, 58, 59, 60, 61, 62, 63] := by decide
theorem ss_2 : w9_ 2 = jw_ [52, 53, 54, 55] := by decide
theorem ss_3 : w9_ 3 = jw_ [67, 68] := by decide
theorem ss_4 : w9_ 4 = jw_ [66] := by decide
theorem ss_n : ∀ s, s ∈ [50, 51, 52, 53, 54, 55, 56, 57, 58, 59, 60, 61, 62, 63, 64, 65, 66, 67, 68, 69, 70] → ∀ c, c ∈ w9_ s → c ≠ 32 := by decide
theorem ss_u : ∀ s, s ∈ [50, 51, 52, 53, 54, 55, 56, 57, 58, 59, 60, 61, 62, 63, 64, 65, 66, 67, 68, 69, 70] → ∀ s', s' ∈ [50, 51, 52, 53, 54, 55, 56, 57, 58, 59, 60, 61, 62, 63, 64, 65, 66, 67, 68, 69, 70] → w9_ s = w9_ s' → s = s' := by decide
def fs_ (ru : Bool) : List Nat := if ru = true then [52, 53, 54, 55] else [56, 57, 58, 59, 60, 61, 62, 63]
def gs9_ (ru : Bool) : List Nat := if ru = true then [66] else [67, 68]
def wc9_ (V : Nat → Int) (ru : Bool) (p m : Nat) : Int :=
  if iN_ V p m [50, 51, 64, 69, 70, 65] 0 = -1 then (if iN_ V p m (fs_ ru) 0 = -1 then (if iN_ V p m (gs9_ ru) 0 = -1 then 1098 else 1020 + (if ru = true then 4 else 8) + iN_ V p m (gs9_ ru) 0) else 1000 + iN_ V p m (fs_ ru) 0) else 1040 + iN_ V p m [50, 51, 64, 69, 70, 65] 0
/-- strings of the program -/
theorem len_s (h : XH) : ∀ s : Fin 71, f_J0_length_8abf5 s.val h = jI ((w9_ s.val).length : Int) := by
  have key : ∀ s : Fin 71, x_shr (nI (x_ss.getD s.val []).length) 0 = jI ((x_ss.getD s.val []).length : Int) := by decide +kernel
  exact key
theorem sl9_ : ∀ s : Fin 71, (w9_ s.val).length < 100 := by decide +kernel
theorem ch_c : ∀ s : Fin 71, ∀ c, c ∈ w9_ s.val → ((c &&& 255).toUInt32 % 65536).toInt32 = c ∧ x_isc c = true := by decide +kernel
theorem chr_s (h : XH) {s k : Nat} (hs : s < 71) (hk : k < (w9_ s).length) : f_J0_charAt_5068e s h (jI (k : Int)) = some ((w9_ s).getD k 0) := by
  have sl := sl9_ ⟨s, hs⟩
  have sl' : (w9_ s).length < 100 := sl
  have ci : x_ci (jI (k : Int)) (nI (x_ss.getD s []).length) = true := by
    have e : nI (x_ss.getD s []).length = jI ((w9_ s).length : Int) := jI_nI _
    rw [e]
    unfold x_ci
    have a : ¬ jI (k : Int) < 0 := fun q => absurd ((jlt0 (by omega) (by omega)).mp q) (by omega)
    have b : jI (k : Int) < jI ((w9_ s).length : Int) := (jI_lt (by omega) (by omega) (by omega) (by omega)).mpr (by omega)
    exact decide_eq_true ⟨a, b⟩
  have mem : (w9_ s).getD k 0 ∈ w9_ s := by
    rw [List.getD_eq_getElem?_getD, List.getElem?_eq_getElem hk]
    exact List.getElem_mem hk
  have cc := ch_c ⟨s, hs⟩ _ mem
  unfold f_J0_charAt_5068e f_J0_isLatin1_aae02 f_J1_charAt_3b067
  rw [if_neg (by decide), if_pos ci, if_pos (jI_b (by omega) (show (k : Int) < ((x_ss.getD s []).length : Int) from by have : k < (x_ss.getD s []).length := hk; omega) (show (w9_ s).length < 2147483648 by omega)), nat_ (by omega)]
  show Option.bind (some ((((w9_ s).getD k 0 &&& 255).toUInt32 % 65536).toInt32)) _ = _
  rw [cc.1, Option.bind_some, if_pos cc.2]
