/-! ===== the component splits its tape ===== -/
def bb9 (b : Bool) : Int32 := if b = true then 1 else 0
theorem c_isL {h : XH} {v : Int} (a : 0 ≤ v) (b : v < 256) : f_X8_isLetter h (jI v) = bb9 (l9_ v) := by
  unfold f_X8_isLetter bb9 l9_
  have g1 : jI v < (97 : Int32) ↔ v < 97 := jI_lt (b := 97) (by omega) (by omega) (by omega) (by omega)
  have g2 : (122 : Int32) < jI v ↔ 122 < v := jI_lt (a := 122) (by omega) (by omega) (by omega) (by omega)
  simp only [g1, g2, decide_eq_true_iff]
  by_cases c : v < 97
  · rw [if_pos c, if_neg (by omega)]
  · by_cases d : 122 < v
    · rw [if_neg c, if_pos d, if_neg (by omega)]
    · rw [if_neg c, if_neg d, if_pos (by omega)]
theorem c_isD {h : XH} {v : Int} (a : 0 ≤ v) (b : v < 256) : f_X8_isDigit h (jI v) = bb9 (d9_ v) := by
  unfold f_X8_isDigit bb9 d9_
  have g1 : jI v < (48 : Int32) ↔ v < 48 := jI_lt (b := 48) (by omega) (by omega) (by omega) (by omega)
  have g2 : (57 : Int32) < jI v ↔ 57 < v := jI_lt (a := 57) (by omega) (by omega) (by omega) (by omega)
  simp only [g1, g2, decide_eq_true_iff]
  by_cases c : v < 48
  · rw [if_pos c, if_neg (by omega)]
  · by_cases d : 57 < v
    · rw [if_neg c, if_pos d, if_neg (by omega)]
    · rw [if_neg c, if_neg d, if_pos (by omega)]
theorem bb0 {b : Bool} : bb9 b = 0 ↔ b = false := by
  cases b <;> simp [bb9]
abbrev TpC (x : Nat) (V : Nat → Int) (L : Nat) (h : XH) : Prop := (h.1 (x + 1) 1 = jI L) ∧ (L ≤ 400) ∧ (∀ k, k < L → h.1 (x + 2) k = jI (V k)) ∧ (∀ k, k < L → 0 ≤ V k ∧ V k < 256)
theorem TpC.l {x : Nat} {V : Nat → Int} {L : Nat} {h : XH} (T : TpC x V L h) : h.1 (x + 1) 1 = jI L := T.1
theorem TpC.L4 {x : Nat} {V : Nat → Int} {L : Nat} {h : XH} (T : TpC x V L h) : L ≤ 400 := T.2.1
theorem TpC.v {x : Nat} {V : Nat → Int} {L : Nat} {h : XH} (T : TpC x V L h) : ∀ k, k < L → h.1 (x + 2) k = jI (V k) := T.2.2.1
theorem TpC.b {x : Nat} {V : Nat → Int} {L : Nat} {h : XH} (T : TpC x V L h) : ∀ k, k < L → 0 ≤ V k ∧ V k < 256 := T.2.2.2
theorem c_e25 {x L : Nat} {V : Nat → Int} {h : XH} (T : TpC x V L h) (fl fd : Bool) : ∀ d i m, L - i = d → i ≤ L → d < m → f_X8_endOfThing_25 x h m (bb9 fl) (bb9 fd) (jI (i : Int)) = some (jI ((re9_ V L (fun c => (fl && l9_ c) || (fd && d9_ c)) i : Nat) : Int)) := by
  have L4 := T.L4
  intro d
  induction d with
  | zero =>
    intro i m hd hi hm
    obtain ⟨m, rfl⟩ : ∃ m', m = m' + 1 := ⟨m - 1, by omega⟩
    rw [f_X8_endOfThing_25, T.l, if_pos ((jI_le (by omega) (by omega) (by omega) (by omega)).mpr (by omega)), re_0 (by omega)]
    rfl
  | succ d ih =>
    intro i m hd hi hm
    obtain ⟨m, rfl⟩ : ∃ m', m = m' + 1 := ⟨m - 1, by omega⟩
    have vb := T.b i (by omega)
    have nx := ih (i + 1) m (by omega) (by omega) (by omega)
    rw [f_X8_endOfThing_25, T.l, if_neg (fun q => absurd ((jI_le (by omega) (by omega) (by omega) (by omega)).mp q) (by omega)), if_pos (jI_b (by omega) (by omega) (by omega)), nat_ (by omega), T.v i (by omega), c_isL vb.1 vb.2]
    unfold f_X8_endOfThing_51 f_X8_endOfThing_68 f_X8_endOfThing_74
    rw [if_pos (jI_b (by omega) (by omega) (by omega)), nat_ (by omega), T.v i (by omega), c_isD vb.1 vb.2, jI_s i]
    by_cases c : ((fl && l9_ (V i)) || (fd && d9_ (V i))) = true
    · rw [re_y (by omega) c, ← nx]
      cases hfl : fl <;> cases hfd : fd <;> cases hl : l9_ (V i) <;> cases hdd : d9_ (V i) <;> simp [hfl, hfd, hl, hdd, bb9] at c ⊢
    · have c' : ((fl && l9_ (V i)) || (fd && d9_ (V i))) = false := by simpa using c
      rw [re_n (by omega) c']
      cases hfl : fl <;> cases hfd : fd <;> cases hl : l9_ (V i) <;> cases hdd : d9_ (V i) <;> simp [hfl, hfd, hl, hdd, bb9] at c ⊢
theorem re_f {V : Nat → Int} {L : Nat} {f g : Int → Bool} (h : ∀ c, f c = g c) (i : Nat) : re9_ V L f i = re9_ V L g i := by
  have : f = g := funext h
  rw [this]
theorem ld9 {c : Int} : l9_ c = true → d9_ c = false := by
  unfold l9_ d9_
  intro h
  rw [decide_eq_true_iff] at h
  exact decide_eq_false (by omega)
theorem c_end {x L p : Nat} {V : Nat → Int} {h : XH} (T : TpC x V L h) (hp : p < L) : f_X8_endOfThing x h (jI (p : Int)) = some (jI ((te_ V L p : Nat) : Int)) := by
  have L4 := T.L4
  have vb := T.b p hp
  unfold f_X8_endOfThing te_
  rw [if_pos (jI_b (by omega) (by omega) (by omega)), nat_ (by omega), T.v p hp, c_isL vb.1 vb.2, xl_, if_pos (jI_b (by omega) (by omega) (by omega)), c_isD vb.1 vb.2, xl_, jI_s p, c_e25 T _ _ _ (p + 1) x_FU rfl (by omega) (by show L - (p + 1) < 100000; omega), if_neg (by omega)]
  by_cases c : l9_ (V p) = true
  · rw [if_pos c, c, ld9 c]
    rw [re_f (g := l9_) (fun c => by simp)]
  · have c' : l9_ (V p) = false := by simpa using c
    rw [if_neg c, c']
    by_cases d : d9_ (V p) = true
    · rw [if_pos d, d]
      rw [re_f (g := d9_) (fun c => by simp)]
    · have d' : d9_ (V p) = false := by simpa using d
      rw [if_neg d, d']
      by_cases e : p + 1 < L
      · rw [re_n e (by simp)]
      · rw [re_0 (by omega)]
theorem gD_d {α : Type} {l : List α} {k : Nat} {a : α} (h : k < l.length) : l.drop k = l.getD k a :: l.drop (k + 1) := by
  rw [List.getD_eq_getElem?_getD, List.getElem?_eq_getElem h]
  exact List.drop_eq_getElem_cons h
theorem c_iw {x L p m s : Nat} {V : Nat → Int} {h : XH} (T : TpC x V L h) (hs : s < 71) (hp : p + m ≤ L) : ∀ d k v4 v5 n (v6 : Bool), (w9_ s).length - k = d → k ≤ (w9_ s).length → v4 ≤ k → v5 ≤ k → d + 1 < n → f_X8_indexIn_12 x h n s (jI (p : Int)) (jI ((p + m : Nat) : Int)) (jI (v4 : Int)) (jI (v5 : Int)) (bb9 v6) (jI (k : Int)) = some (jI (iw_ V p m ((w9_ s).drop k) v4 v5 v6)) := by
  have L4 := T.L4
  have sl : (w9_ s).length < 100 := sl9_ ⟨s, hs⟩
  have ln : f_J0_length_8abf5 s h = jI ((w9_ s).length : Int) := len_s h ⟨s, hs⟩
  have em : jI ((p + m : Nat) : Int) - jI (p : Int) = jI (m : Int) := by
    rw [jI_sub]
    congr 1
    omega
  intro d
  induction d with
  | zero =>
    intro k v4 v5 n v6 hd hk h4 h5 hn
    obtain ⟨n, rfl⟩ : ∃ m', n = m' + 2 := ⟨n - 2, by omega⟩
    have e : jI (v5 : Int) = jI (m : Int) ↔ v5 = m := by
      rw [jI_eq (by omega) (by omega) (by omega) (by omega)]
      omega
    rw [f_X8_indexIn_12, ln, if_neg (fun q => absurd ((jI_lt (by omega) (by omega) (by omega) (by omega)).mp q) (by omega)), if_pos ((jI_eq (by omega) (by omega) (by omega) (by omega)).mpr (by omega)), List.drop_eq_nil_of_le (by omega)]
    unfold f_X8_indexIn_41 f_X8_indexIn_57 f_X8_indexIn_110
    rw [em, jI_s k]
    have nx : ∀ a b c, f_X8_indexIn_12 x h (n + 1) s (jI (p : Int)) (jI ((p + m : Nat) : Int)) a b c (jI ((k + 1 : Nat) : Int)) = some (-1) := fun a b c => by
      rw [f_X8_indexIn_12, ln, if_pos ((jI_lt (by omega) (by omega) (by omega) (by omega)).mpr (by omega))]
    show _ = some (jI (if (v6 && decide (v5 = m)) = true then (v4 : Int) else -1))
    cases v6
    · rw [if_pos (bb0.mpr rfl), nx]
      rfl
    · rw [if_neg (fun q => absurd (bb0.mp q) (by decide)), Bool.true_and]
      by_cases c : v5 = m
      · rw [if_pos (e.mpr c), decide_eq_true c, if_pos rfl]
      · rw [if_neg (fun q => c (e.mp q)), decide_eq_false c, nx, if_neg (by decide)]
        rfl
  | succ d ih =>
    intro k v4 v5 n v6 hd hk h4 h5 hn
    obtain ⟨n, rfl⟩ : ∃ m', n = m' + 1 := ⟨n - 1, by omega⟩
    have e : jI (v5 : Int) = jI (m : Int) ↔ v5 = m := by
      rw [jI_eq (by omega) (by omega) (by omega) (by omega)]
      omega
    have kl : k < (w9_ s).length := by omega
    rw [f_X8_indexIn_12, ln, if_neg (fun q => absurd ((jI_lt (by omega) (by omega) (by omega) (by omega)).mp q) (by omega)), if_neg (fun q => absurd ((jI_eq (by omega) (by omega) (by omega) (by omega)).mp q) (by omega)), chr_s h hs kl, Option.bind_some, gD_d (a := 0) kl]
    unfold f_X8_indexIn_41 f_X8_indexIn_57 f_X8_indexIn_104 f_X8_indexIn_105 f_X8_indexIn_110
    rw [em, jI_s k, jI_s v4, jI_s v5]
    generalize (w9_ s).getD k 0 = c
    show _ = some (jI (if c = 32 then (if (v6 && decide (v5 = m)) = true then (v4 : Int) else iw_ V p m ((w9_ s).drop (k + 1)) (v4 + 1) 0 true) else iw_ V p m ((w9_ s).drop (k + 1)) v4 (v5 + 1) (v6 && (decide (v5 < m) && decide (jI (V (p + v5)) = c)))))
    have nx := fun v4 v5 v6 h4 h5 => ih (k + 1) v4 v5 n v6 (by omega) (by omega) h4 h5 (by omega)
    by_cases q : c = 32
    · rw [if_pos q, if_pos q]
      have n1 := nx (v4 + 1) 0 true (by omega) (by omega)
      have n1' : f_X8_indexIn_12 x h n s (jI (p : Int)) (jI ((p + m : Nat) : Int)) (jI ((v4 + 1 : Nat) : Int)) 0 1 (jI ((k + 1 : Nat) : Int)) = _ := n1
      cases v6
      · rw [if_pos (bb0.mpr rfl), Bool.false_and, if_neg (by decide), n1']
      · rw [if_neg (fun q => absurd (bb0.mp q) (by decide)), Bool.true_and]
        by_cases c : v5 = m
        · rw [if_pos (e.mpr c), decide_eq_true c, if_pos rfl]
        · rw [if_neg (fun q => c (e.mp q)), decide_eq_false c, if_neg (by decide), n1']
    · rw [if_neg q, if_neg q]
      cases v6
      · have n2 := nx v4 (v5 + 1) false (by omega) (by omega)
        have n2' : f_X8_indexIn_12 x h n s (jI (p : Int)) (jI ((p + m : Nat) : Int)) (jI (v4 : Int)) (jI ((v5 + 1 : Nat) : Int)) 0 (jI ((k + 1 : Nat) : Int)) = _ := n2
        rw [if_pos (bb0.mpr rfl), Bool.false_and, n2']
      · rw [if_neg (fun q => absurd (bb0.mp q) (by decide)), Bool.true_and]
        by_cases g : v5 < m
        · rw [if_neg (fun q => absurd ((jI_le (by omega) (by omega) (by omega) (by omega)).mp q) (by omega)), decide_eq_true g, Bool.true_and, jI_add, if_pos (jI_b (by omega) (by omega) (by omega)), Option.bind_some, xl_, show (p : Int) + (v5 : Int) = ((p + v5 : Nat) : Int) by omega, nat_ (by omega), T.v _ (by omega)]
          have n3 := nx v4 (v5 + 1) (decide (jI (V (p + v5)) = c)) (by omega) (by omega)
          rw [← n3]
          unfold bb9
          by_cases z : jI (V (p + v5)) = c
          · rw [if_pos z, decide_eq_true z, if_pos rfl]
          · rw [if_neg z, decide_eq_false z, if_neg (by decide)]
        · have n2 := nx v4 (v5 + 1) false (by omega) (by omega)
          have n2' : f_X8_indexIn_12 x h n s (jI (p : Int)) (jI ((p + m : Nat) : Int)) (jI (v4 : Int)) (jI ((v5 + 1 : Nat) : Int)) 0 (jI ((k + 1 : Nat) : Int)) = _ := n2
          rw [if_pos ((jI_le (by omega) (by omega) (by omega) (by omega)).mpr (by omega)), decide_eq_false g, Bool.false_and, n2']
theorem iN_b {V : Nat → Int} {p m : Nat} : ∀ (l : List Nat) (i : Nat), iN_ V p m l i = -1 ∨ ((i : Int) ≤ iN_ V p m l i ∧ iN_ V p m l i < i + l.length) := by
  intro l
  induction l with
  | nil => intro i; exact .inl rfl
  | cons s l ih =>
    intro i
    have e : ((s :: l).length : Int) = l.length + 1 := by simp
    unfold iN_
    split
    · right
      omega
    · have := ih (i + 1)
      omega
theorem c_idx {x L p m s : Nat} {V : Nat → Int} {h : XH} (T : TpC x V L h) (hs : s < 71) (hp : p + m ≤ L) {l : List Nat} (hl : l ≠ []) (hw : w9_ s = jw_ l) (hn : ∀ s, s ∈ l → s ∈ [50, 51, 52, 53, 54, 55, 56, 57, 58, 59, 60, 61, 62, 63, 64, 65, 66, 67, 68, 69, 70]) : f_X8_indexIn x h s (jI (p : Int)) (jI ((p + m : Nat) : Int)) = some (jI (iN_ V p m l 0)) := by
  have sl : (w9_ s).length < 100 := sl9_ ⟨s, hs⟩
  have k := c_iw T hs hp _ 0 0 0 x_FU true rfl (by omega) (by omega) (by omega) (by show (w9_ s).length - 0 + 1 < 100000; omega)
  rw [List.drop_zero, hw, iw_j l 0 hl (fun s hs => ss_n s (hn s hs))] at k
  exact k
theorem c_word {x L p m : Nat} {V : Nat → Int} {h : XH} (T : TpC x V L h) (hp : p + m ≤ L) (ru : Bool) : f_X8_wordOf x h (jI (p : Int)) (jI ((p + m : Nat) : Int)) (bb9 (!ru)) = some (jI (wc9_ V ru p m)) := by
  have k0 := c_idx T (s := 0) (by omega) hp (by simp) ss_0 (by decide)
  have k1 := c_idx T (s := 1) (by omega) hp (by simp) ss_1 (by decide)
  have k2 := c_idx T (s := 2) (by omega) hp (by simp) ss_2 (by decide)
  have k3 := c_idx T (s := 3) (by omega) hp (by simp) ss_3 (by decide)
  have k4 := c_idx T (s := 4) (by omega) hp (by simp) ss_4 (by decide)
  have b0 := iN_b (V := V) (p := p) (m := m) [50, 51, 64, 69, 70, 65] 0
  have bf := iN_b (V := V) (p := p) (m := m) (fs_ ru) 0
  have bg := iN_b (V := V) (p := p) (m := m) (gs9_ ru) 0
  have lf : (fs_ ru).length ≤ 8 := by cases ru <;> decide
  have lg : (gs9_ ru).length ≤ 2 := by cases ru <;> decide
  have l0 : [50, 51, 64, 69, 70, 65].length = 6 := rfl
  rw [l0] at b0
  unfold f_X8_wordOf
  rw [k0, Option.bind_some]
  have kf : (if bb9 (!ru) = 0 then f_X8_wordOf_35 x h (jI (p : Int)) (jI ((p + m : Nat) : Int)) (bb9 (!ru)) 2 else f_X8_wordOf_35 x h (jI (p : Int)) (jI ((p + m : Nat) : Int)) (bb9 (!ru)) 1) = some (jI (if iN_ V p m (fs_ ru) 0 = -1 then (if iN_ V p m (gs9_ ru) 0 = -1 then 1098 else 1020 + (if ru = true then 4 else 8) + iN_ V p m (gs9_ ru) 0) else 1000 + iN_ V p m (fs_ ru) 0)) := by
    unfold f_X8_wordOf_35 f_X8_wordOf_67
    cases ru
    · rw [if_neg (by decide), k1, Option.bind_some]
      show _ = some (jI (if iN_ V p m [56, 57, 58, 59, 60, 61, 62, 63] 0 = -1 then (if iN_ V p m [67, 68] 0 = -1 then 1098 else 1020 + (if false = true then 4 else 8) + iN_ V p m [67, 68] 0) else 1000 + iN_ V p m [56, 57, 58, 59, 60, 61, 62, 63] 0))
      have bf' : iN_ V p m [56, 57, 58, 59, 60, 61, 62, 63] 0 = -1 ∨ ((0 : Nat) : Int) ≤ iN_ V p m [56, 57, 58, 59, 60, 61, 62, 63] 0 ∧ iN_ V p m [56, 57, 58, 59, 60, 61, 62, 63] 0 < ((0 : Nat) : Int) + ((8 : Nat) : Int) := iN_b _ 0
      have bg' : iN_ V p m [67, 68] 0 = -1 ∨ ((0 : Nat) : Int) ≤ iN_ V p m [67, 68] 0 ∧ iN_ V p m [67, 68] 0 < ((0 : Nat) : Int) + ((2 : Nat) : Int) := iN_b _ 0
      by_cases c : iN_ V p m [56, 57, 58, 59, 60, 61, 62, 63] 0 = -1
      · rw [if_pos ((jm1 (by omega) (by omega)).mpr c), if_pos c, if_neg (by decide), k3, Option.bind_some]
        by_cases d : iN_ V p m [67, 68] 0 = -1
        · rw [if_pos ((jm1 (by omega) (by omega)).mpr d), if_pos d]
          rfl
        · rw [if_neg (fun q => d ((jm1 (by omega) (by omega)).mp q)), if_neg d, if_neg (by decide), if_neg (by decide), show (1020 : Int32) + 8 = jI (1020 + 8) from rfl, jI_add]
      · rw [if_neg (fun q => c ((jm1 (by omega) (by omega)).mp q)), if_neg c, show (1000 : Int32) = jI 1000 from rfl, jI_add]
    · rw [if_pos (by decide), k2, Option.bind_some]
      show _ = some (jI (if iN_ V p m [52, 53, 54, 55] 0 = -1 then (if iN_ V p m [66] 0 = -1 then 1098 else 1020 + (if true = true then 4 else 8) + iN_ V p m [66] 0) else 1000 + iN_ V p m [52, 53, 54, 55] 0))
      have bf' : iN_ V p m [52, 53, 54, 55] 0 = -1 ∨ ((0 : Nat) : Int) ≤ iN_ V p m [52, 53, 54, 55] 0 ∧ iN_ V p m [52, 53, 54, 55] 0 < ((0 : Nat) : Int) + ((4 : Nat) : Int) := iN_b _ 0
      have bg' : iN_ V p m [66] 0 = -1 ∨ ((0 : Nat) : Int) ≤ iN_ V p m [66] 0 ∧ iN_ V p m [66] 0 < ((0 : Nat) : Int) + ((1 : Nat) : Int) := iN_b _ 0
      by_cases c : iN_ V p m [52, 53, 54, 55] 0 = -1
      · rw [if_pos ((jm1 (by omega) (by omega)).mpr c), if_pos c, if_pos (by decide), k4, Option.bind_some]
        by_cases d : iN_ V p m [66] 0 = -1
        · rw [if_pos ((jm1 (by omega) (by omega)).mpr d), if_pos d]
          rfl
        · rw [if_neg (fun q => d ((jm1 (by omega) (by omega)).mp q)), if_neg d, if_pos (by decide), if_pos rfl, show (1020 : Int32) + 4 = jI (1020 + 4) from rfl, jI_add]
      · rw [if_neg (fun q => c ((jm1 (by omega) (by omega)).mp q)), if_neg c, show (1000 : Int32) = jI 1000 from rfl, jI_add]
  unfold wc9_
  by_cases c : iN_ V p m [50, 51, 64, 69, 70, 65] 0 = -1
  · rw [if_pos ((jm1 (by omega) (by omega)).mpr c), if_pos c, kf]
  · rw [if_neg (fun q => c ((jm1 (by omega) (by omega)).mp q)), if_neg c, show (1040 : Int32) = jI 1040 from rfl, jI_add]
def nv9_ (V : Nat → Int) (p : Nat) : Nat → Int
  | 0 => 0
  | k + 1 => nv9_ V p k * 10 + V (p + k) - 48
def th_ (V : Nat → Int) (L : Nat) (ru : Bool) (p : Nat) : Int := if L ≤ p then 1099 else if l9_ (V p) = true then wc9_ V ru p (te_ V L p - p) else if d9_ (V p) = true then (if te_ V L p - p ≤ 3 then nv9_ V p (te_ V L p - p) else 1098) else 1100 + V p
theorem c_thing {x L p : Nat} {V : Nat → Int} {h : XH} (T : TpC x V L h) (hp : p < L) (ru : Bool) : f_X8_thingOf x h (jI (p : Int)) (jI ((te_ V L p : Nat) : Int)) (bb9 (!ru)) = some (jI (th_ V L ru p)) := by
  have L4 := T.L4
  have vb := T.b p hp
  have te := te_b (V := V) hp
  have bx : x_b (jI (p : Int)) 400 = true := jI_b (by omega) (by omega) (by omega)
  unfold f_X8_thingOf th_
  rw [if_pos bx, nat_ (by omega), T.v p hp, c_isL vb.1 vb.2, if_pos bx, c_isD vb.1 vb.2, if_pos bx, if_neg (show ¬ L ≤ p by omega)]
  by_cases c : l9_ (V p) = true
  · have w := c_word T (p := p) (m := te_ V L p - p) (by omega) ru
    rw [show p + (te_ V L p - p) = te_ V L p by omega] at w
    rw [if_neg (fun q => absurd (bb0.mp q) (by rw [c]; decide)), if_pos c, w, Option.bind_some]
  · have c' : l9_ (V p) = false := by simpa using c
    rw [if_pos (bb0.mpr c'), if_neg c]
    by_cases d : d9_ (V p) = true
    · rw [if_neg (fun q => absurd (bb0.mp q) (by rw [d]; decide)), if_pos d, jI_sub]
      have l3 : jI ((te_ V L p : Int) - (p : Int)) ≤ (3 : Int32) ↔ (te_ V L p : Int) - (p : Int) ≤ 3 := jI_le (b := 3) (by omega) (by omega) (by omega) (by omega)
      by_cases g : te_ V L p - p ≤ 3
      · rw [if_pos (l3.mpr (by omega)), if_pos g]
        have key := x_up0 (P := fun m k => f_X8_thingOf_60 x h m (jI ((te_ V L p : Nat) : Int)) (jI (nv9_ V p k)) (jI ((p + k : Nat) : Int)) = some (jI (nv9_ V p (te_ V L p - p)))) (te_ V L p - p) (by omega) (fun m => by
          rw [f_X8_thingOf_60, if_pos ((jI_le (by omega) (by omega) (by omega) (by omega)).mpr (by omega))]) (fun m k hk ih => by
          rw [f_X8_thingOf_60, if_neg (fun q => absurd ((jI_le (by omega) (by omega) (by omega) (by omega)).mp q) (by omega)), if_pos (jI_b (by omega) (by omega) (by omega)), xl_, nat_ (by omega), T.v _ (by omega), show (10 : Int32) = jI 10 from rfl, show (48 : Int32) = jI 48 from rfl, jI_mul, jI_add, jI_sub, jI_s (p + k)]
          exact ih)
        exact key
      · rw [if_neg (fun q => absurd (l3.mp q) (by omega)), if_neg g]
        rfl
    · have d' : d9_ (V p) = false := by simpa using d
      rw [if_pos (bb0.mpr d'), if_neg d, show (1100 : Int32) = jI 1100 from rfl, jI_add]
theorem c_split {x L n : Nat} {V : Nat → Int} {h : XH} (T : TpC x V L h) (ru : Bool) (hn : n ≤ L) (hn1 : tb_ V L n = L) (hn2 : ∀ j, j < n → tb_ V L j < L) :
    ∃ h2, f_X8_split x h (bb9 (!ru)) = some h2 ∧ (∀ j, j ≤ n → h2.1 (x + 3) j = jI (th_ V L ru (tb_ V L j)) ∧ h2.1 (x + 4) j = jI ((tb_ V L j : Nat) : Int)) ∧ (∀ a, a ≠ x + 3 → a ≠ x + 4 → h2.1 a = h.1 a) ∧ h2.2 = h.2 := by
  have L4 := T.L4
  have key : ∀ d pos m j it (h1 : XH), L - pos = d → pos ≤ L → d < m → j ≤ n → it ≤ pos → re9_ V L b9_ pos = tb_ V L j → (∀ k, k < j → h1.1 (x + 3) k = jI (th_ V L ru (tb_ V L k)) ∧ h1.1 (x + 4) k = jI ((tb_ V L k : Nat) : Int)) → (∀ a, a ≠ x + 3 → a ≠ x + 4 → h1.1 a = h.1 a) → h1.2 = h.2 → ∃ h2, f_X8_split_7 x m h1 (bb9 (!ru)) (jI (j : Int)) (jI (pos : Int)) (jI (it : Int)) = some h2 ∧ (∀ j, j ≤ n → h2.1 (x + 3) j = jI (th_ V L ru (tb_ V L j)) ∧ h2.1 (x + 4) j = jI ((tb_ V L j : Nat) : Int)) ∧ (∀ a, a ≠ x + 3 → a ≠ x + 4 → h2.1 a = h.1 a) ∧ h2.2 = h.2 := by
    intro d
    induction d using Nat.strongRecOn with
    | _ d ih =>
      intro pos m j it h1 hd hp hm hj hit hre hk f1 f2
      obtain ⟨m, rfl⟩ : ∃ m', m = m' + 1 := ⟨m - 1, by omega⟩
      have T1 : TpC x V L h1 := ⟨by rw [f1 _ (by omega) (by omega)]; exact T.l, L4, fun k hk => by rw [f1 _ (by omega) (by omega)]; exact T.v k hk, T.b⟩
      have fin : L ≤ pos → ∃ h2, f_X8_split_74 x h1 (jI (j : Int)) = some h2 ∧ (∀ j, j ≤ n → h2.1 (x + 3) j = jI (th_ V L ru (tb_ V L j)) ∧ h2.1 (x + 4) j = jI ((tb_ V L j : Nat) : Int)) ∧ (∀ a, a ≠ x + 3 → a ≠ x + 4 → h2.1 a = h.1 a) ∧ h2.2 = h.2 := fun hL => by
        rw [re_0 hL] at hre
        have ej : j = n := by
          by_cases c : j < n
          · have := hn2 j c
            omega
          · omega
        unfold f_X8_split_74
        rw [if_pos (jI_b (by omega) (by omega) (by omega)), xl_, if_pos (jI_b (by omega) (by omega) (by omega)), xl_, nat_ (by omega), T1.l]
        refine ⟨_, rfl, fun k hk' => ?_, fun a a1 a2 => by rw [gi_n a1, gi_n a2, f1 a a1 a2], f2⟩
        by_cases c : k = j
        · rw [c, gi_s, gi_a (by omega), gi_s, ← hre]
          unfold th_
          rw [if_pos (by omega)]
          exact ⟨rfl, by rw [show pos = L by omega]⟩
        · have := hk k (by omega)
          rw [gi_k c, gi_a (by omega), gi_a (by omega), gi_k c]
          exact this
      rw [f_X8_split_7]
      by_cases c0 : 400 ≤ it
      · rw [if_pos (show (400 : Int32) ≤ jI (it : Int) from (jI_le (a := 400) (by omega) (by omega) (by omega) (by omega)).mpr (by omega))]
        exact fin (by omega)
      · rw [if_neg (show ¬ (400 : Int32) ≤ jI (it : Int) from fun q => absurd ((jI_le (a := 400) (by omega) (by omega) (by omega) (by omega)).mp q) (by omega)), T1.l]
        by_cases c1 : L ≤ pos
        · rw [if_pos ((jI_le (by omega) (by omega) (by omega) (by omega)).mpr (by omega))]
          exact fin c1
        · have vb := T.b pos (by omega)
          have te := te_b (V := V) (L := L) (p := pos) (by omega)
          rw [if_neg (fun q => absurd ((jI_le (by omega) (by omega) (by omega) (by omega)).mp q) (by omega)), c_end T1 (by omega), Option.bind_some, if_pos (jI_b (by omega) (by omega) (by omega)), nat_ (by omega), T1.v pos (by omega)]
          unfold f_X8_split_65
          rw [jI_s it]
          have e32 : jI (V pos) = (32 : Int32) ↔ V pos = 32 := jI_eq (b := 32) (by omega) (by omega) (by omega) (by omega)
          by_cases c2 : V pos = 32
          · have tp : te_ V L pos = pos + 1 := by
              unfold te_ l9_ d9_
              rw [if_neg (by omega), if_neg (by rw [decide_eq_true_iff]; omega), if_neg (by rw [decide_eq_true_iff]; omega)]
            rw [if_pos (e32.mpr c2), tp]
            exact ih (L - (pos + 1)) (by omega) (pos + 1) m j (it + 1) h1 rfl (by omega) (by omega) hj (by omega) (by rw [← hre, re_y (i := pos) (by omega) (decide_eq_true c2)]) hk f1 f2
          · rw [re_n (by omega) (decide_eq_false c2)] at hre
            have jn : j < n := by
              by_cases c : j < n
              · exact c
              · rw [show j = n by omega, hn1] at hre
                omega
            have T8 : TpC x V L (x_i h1 (x + 4) j (jI (pos : Int))) := ⟨by rw [gi_a (by omega)]; exact T1.l, L4, fun k hk => by rw [gi_a (by omega)]; exact T1.v k hk, T.b⟩
            rw [if_neg (fun q => c2 (e32.mp q)), if_pos (jI_b (by omega) (by omega) (by omega)), xl_, nat_ (by omega), c_thing T8 (by omega) ru, Option.bind_some, if_pos (jI_b (by omega) (by omega) (by omega)), xl_, jI_s j]
            refine ih (L - te_ V L pos) (by omega) (te_ V L pos) m (j + 1) (it + 1) _ rfl (by omega) (by omega) (by omega) (by omega) ?_ (fun k hk' => ?_) (fun a a1 a2 => by rw [gi_n a1, gi_n a2, f1 a a1 a2]) f2
            · rw [hre]
              rfl
            · by_cases c : k = j
              · rw [c, gi_s, gi_a (by omega), gi_s, ← hre]
                exact ⟨rfl, rfl⟩
              · have := hk k (by omega)
                rw [gi_k c, gi_a (by omega), gi_a (by omega), gi_k c]
                exact this
  exact key L 0 x_FU 0 0 h rfl (by omega) (by show L < 100000; omega) (by omega) (by omega) rfl (fun k hk => absurd hk (by omega)) (fun _ _ _ => rfl) rfl
