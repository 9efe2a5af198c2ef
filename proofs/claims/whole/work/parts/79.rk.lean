/-! ===== what to risk ===== -/
def x_h0 : XH := (fun _ _ => 0, fun _ _ => 0, fun _ _ => none)
def pcn_ : Nat → Nat → Nat
  | 0, _ => 0
  | k + 1, s => pcn_ k s + (if s.testBit k = true then 1 else 0)
def pc8_ (s : Nat) : Nat := pcn_ 8 s
theorem bc_8 : ∀ s : Fin 256, f_J6_bitCount_0f7a4 x_h0 (jI (s.val : Int)) = jI (pc8_ s.val : Int) := by decide +kernel
theorem bc_e (h : XH) {s : Nat} (hs : s < 256) : f_J6_bitCount_0f7a4 h (jI (s : Int)) = jI (pc8_ s : Int) := bc_8 ⟨s, hs⟩
theorem bi_n {s k : Nat} (hs : s < 4294967296) (hk : k < 32) : bi_ (jI (s : Int)) k = s.testBit k := by
  have e : (jI (s : Int)).toBitVec = BitVec.ofNat 32 s := by
    show (Int32.ofInt (s : Int)).toBitVec = _
    rw [Int32.ofInt_eq_ofNat]
    rfl
  unfold bi_
  rw [e, BitVec.getLsbD_ofNat]
  simp [hk]
def ch_ (t g : Nat) : Nat := (([[1], [1, 1], [1, 2, 1], [1, 3, 3, 1], [1, 4, 6, 4, 1], [1, 5, 10, 10, 5, 1], [1, 6, 15, 20, 15, 6, 1]] : List (List Nat)).getD t []).getD g 0
theorem wy_8 : ∀ t : Fin 7, ∀ g : Fin 7, g.val ≤ t.val → f_X11_waysToChoose x_h0 (jI (t.val : Int)) (jI (g.val : Int)) = some (lI (ch_ t.val g.val : Int)) := by decide +kernel
theorem wy_h (h h' : XH) : ∀ (n : Nat) (a b : Int32) (c : Int64) (d : Int32), f_X11_waysToChoose_5 h n a b c d = f_X11_waysToChoose_5 h' n a b c d := by
  intro n
  induction n with
  | zero => intros; rfl
  | succ n ih =>
    intro a b c d
    simp only [f_X11_waysToChoose_5, x_let, ih]
theorem wy_e (h : XH) {t g : Nat} (ht : t < 7) (hg : g ≤ t) : f_X11_waysToChoose h (jI (t : Int)) (jI (g : Int)) = some (lI (ch_ t g : Int)) := by
  have e := wy_8 ⟨t, ht⟩ ⟨g, by omega⟩ hg
  unfold f_X11_waysToChoose at e ⊢
  rw [wy_h h x_h0]
  exact e
def pp_ (c d g t : Nat) : Nat → Nat
  | 0 => 1
  | k + 1 => pp_ c d g t k * (if k < g then c else if k < t then d else 100)
def cs_ (c d t w : Nat) : Nat → Nat
  | 0 => 0
  | n + 1 => cs_ c d t w n + pp_ c d (w + n) t 6 * ch_ t (w + n)
def pd_ (c d s : Nat) : Nat → Nat
  | 0 => 1
  | k + 1 => pd_ c d s k * (if s.testBit k = true then c else d)
def sS_ (c d t w : Nat) : Nat → Nat
  | 0 => 0
  | s + 1 => sS_ c d t w s + (if w ≤ pc8_ s then pd_ c d s t else 0)
def sR_ (c d t w : Nat) : Nat := sS_ c d t w (2 ^ t) * 100 ^ (6 - t)
theorem rk_e : ∀ c : Fin 101, ∀ t : Fin 7, ∀ w : Fin 7, 1 ≤ t.val → cs_ c.val (100 - c.val) t.val w.val (t.val + 1 - w.val) = sR_ c.val (100 - c.val) t.val w.val := by decide +kernel
theorem lN_m (a b : Nat) : lI (a : Int) * lI (b : Int) = lI ((a * b : Nat) : Int) := by rw [lI_mul, Int.natCast_mul]
theorem lN_a (a b : Nat) : lI (a : Int) + lI (b : Int) = lI ((a + b : Nat) : Int) := by rw [lI_add, Int.natCast_add]
theorem c_o30 {x : Nat} {h : XH} {k18 : Int32 → Int32 → Int64 → Int32 → Option Int64} {t g c d : Nat} {v4 : Int64} (ht : t < 7) (hg : g ≤ t) (hc : c ≤ 100) (hd : d = 100 - c) :
    f_X11_oddsOfWhole_30 k18 x h x_FU (jI t) (jI c) v4 (jI g) 1 0 = k18 (jI t) (jI c) (v4 + lI ((pp_ c d g t 6 * ch_ t g : Nat) : Int)) (jI g + 1) := by
  refine x_up0 (P := fun m n => f_X11_oddsOfWhole_30 k18 x h m (jI t) (jI c) v4 (jI g) (lI (pp_ c d g t n : Int)) (jI (n : Int)) = k18 (jI t) (jI c) (v4 + lI ((pp_ c d g t 6 * ch_ t g : Nat) : Int)) (jI g + 1)) 6 (by omega) (fun m => by
    unfold f_X11_oddsOfWhole_30
    rw [if_pos (by decide), wy_e h ht hg, Option.bind_some, lN_m]) (fun m n hn ih => by
    have a1 := jI_s n
    have e : (if jI (g : Int) ≤ jI (n : Int) then (if jI (t : Int) ≤ jI (n : Int) then (100 : Int64) else (100 - jI (c : Int)).toInt64) else (jI (c : Int)).toInt64) = lI ((if n < g then c else if n < t then d else 100 : Nat) : Int) := by
      by_cases c1 : n < g
      · rw [if_neg (fun q => absurd ((jI_le (by omega) (by omega) (by omega) (by omega)).mp q) (by omega)), if_pos c1, jI_l (by omega) (by omega)]
      · rw [if_pos ((jI_le (by omega) (by omega) (by omega) (by omega)).mpr (by omega)), if_neg c1]
        by_cases c2 : n < t
        · rw [if_neg (fun q => absurd ((jI_le (by omega) (by omega) (by omega) (by omega)).mp q) (by omega)), if_pos c2, show (100 : Int32) = jI 100 from rfl, jI_sub, jI_l (by omega) (by omega), show (100 : Int) - (c : Int) = (d : Int) by omega]
        · rw [if_pos ((jI_le (by omega) (by omega) (by omega) (by omega)).mpr (by omega)), if_neg c2]
          rfl
    rw [f_X11_oddsOfWhole_30, if_neg (show ¬ (6 : Int32) ≤ jI (n : Int) from fun q => absurd ((jI_le (a := 6) (by omega) (by omega) (by omega) (by omega)).mp q) (by omega)), xl_, e, lN_m, a1]
    exact ih)
theorem c_o18 {x : Nat} {h : XH} {t w c d : Nat} (ht : t < 7) (hw : w < 7) (hc : c ≤ 100) (hd : d = 100 - c) :
    f_X11_oddsOfWhole_18 x h x_FU (jI t) (jI c) 0 (jI w) = some (lI (cs_ c d t w (t + 1 - w) : Int)) := by
  refine x_up0 (P := fun m n => f_X11_oddsOfWhole_18 x h m (jI t) (jI c) (lI (cs_ c d t w n : Int)) (jI ((w + n : Nat) : Int)) = some (lI (cs_ c d t w (t + 1 - w) : Int))) (t + 1 - w) (by omega) (fun m => by
    unfold f_X11_oddsOfWhole_18
    rw [if_pos ((jI_lt (by omega) (by omega) (by omega) (by omega)).mpr (by omega))]) (fun m n hn ih => by
    rw [f_X11_oddsOfWhole_18, if_neg (fun q => absurd ((jI_lt (by omega) (by omega) (by omega) (by omega)).mp q) (by omega)), c_o30 ht (by omega) hc hd, lN_a, jI_s]
    exact ih)
theorem c_odds {gh : Nat} {x : Nat} {K : XK} {h : XH} (I : Inv gh x K h) {t w c : Nat} (ht : 1 ≤ t ∧ t < 7) (hw : w < 7) (hc : wd x h (963 + t) = c) (hb : c ≤ 100) : f_X11_oddsOfWhole x h (jI t) (jI w) = some (lI (sR_ c (100 - c) t w : Int)) := by
  have e : h.1 (x + 17) (t - 1) = jI (wd x h (964 + (t - 1))) := I.2.1.2.2.2.2.2.1 (t - 1) (by omega)
  rw [show 964 + (t - 1) = 963 + t by omega, hc] at e
  unfold f_X11_oddsOfWhole
  rw [show (1 : Int32) = jI 1 from rfl, jI_sub, if_pos (jI_b (by omega) (by omega) (by omega)), jI_nat (by omega) (by omega), show ((t : Int) - 1).toNat = t - 1 by omega, e, xl_, c_o18 ht.2 hw hb rfl]
  have k := rk_e ⟨c, by omega⟩ ⟨t, ht.2⟩ ⟨w, hw⟩ ht.1
  rw [k]
theorem r_o46 {x : Nat} {h : XH} {k20 : Int32 → Int32 → Int64 → Int64 → Int32 → Option Int64} {t c d s : Nat} {v2 : Int32} {v5 : Int64} (ht : t < 7) (hs : s < 64) (hc : c ≤ 100) (hd : d = 100 - c) :
    f_X12_oddsOf_46 k20 x h x_FU (jI t) v2 (lI (c : Int)) v5 (jI s) 1 0 = k20 (jI t) v2 (lI (c : Int)) (v5 + lI (pd_ c d s t : Int)) (jI s + 1) := by
  refine x_up0 (P := fun m n => f_X12_oddsOf_46 k20 x h m (jI t) v2 (lI (c : Int)) v5 (jI s) (lI (pd_ c d s n : Int)) (jI (n : Int)) = k20 (jI t) v2 (lI (c : Int)) (v5 + lI (pd_ c d s t : Int)) (jI s + 1)) t (by omega) (fun m => by
    unfold f_X12_oddsOf_46
    rw [if_pos ((jI_le (by omega) (by omega) (by omega) (by omega)).mpr (by omega))]
    rfl) (fun m n hn ih => by
    have a1 := jI_s n
    have e : (if x_shr (jI (s : Int)) (jI (n : Int)) &&& 1 = 1 then lI (c : Int) else 100 - lI (c : Int)) = lI ((if s.testBit n = true then c else d : Nat) : Int) := by
      rw [bi_at (by omega), bi_n (by omega) (by omega)]
      by_cases q : s.testBit n = true
      · rw [if_pos q, if_pos rfl, if_pos q]
      · rw [if_neg q, if_neg (by decide), if_neg q, show (d : Int) = 100 - (c : Int) by omega]
        show lI 100 - lI (c : Int) = _
        exact (Int64.ofInt_sub 100 (c : Int)).symm
    rw [f_X12_oddsOf_46, if_neg (fun q => absurd ((jI_le (by omega) (by omega) (by omega) (by omega)).mp q) (by omega)), xl_, e, lN_m, a1]
    exact ih)
theorem r_o99 {x : Nat} {h : XH} {t a : Nat} (ht : t < 7) : f_X12_oddsOf_99 x h x_FU (lI (a : Int)) (jI t) = some (lI ((a * 100 ^ (6 - t) : Nat) : Int)) := by
  refine x_up0 (P := fun m n => f_X12_oddsOf_99 x h m (lI ((a * 100 ^ n : Nat) : Int)) (jI ((t + n : Nat) : Int)) = some (lI ((a * 100 ^ (6 - t) : Nat) : Int))) (6 - t) (by omega) (fun m => by
    unfold f_X12_oddsOf_99
    rw [show t + (6 - t) = 6 by omega, if_pos (by decide)]) (fun m n hn ih => by
    rw [f_X12_oddsOf_99, if_neg (show ¬ (6 : Int32) ≤ jI ((t + n : Nat) : Int) from fun q => absurd ((jI_le (a := 6) (by omega) (by omega) (by omega) (by omega)).mp q) (by omega)), show (100 : Int64) = lI ((100 : Nat) : Int) from rfl, lN_m, jI_s, Nat.mul_assoc, ← Nat.pow_succ]
    exact ih) |> fun k => by rw [show a * 100 ^ 0 = a by omega] at k; exact k
theorem pw_ : ∀ t : Fin 7, x_shl 1 (jI (t.val : Int)) = jI ((2 ^ t.val : Nat) : Int) := by decide
theorem r_odds {x : Nat} {h : XH} {t w c : Nat} (ht : 1 ≤ t ∧ t < 7) (hw : w < 7) (hc : wd x h (963 + t) = c) (hb : c ≤ 100) : f_X12_oddsOf x h (jI t) (jI w) = some (lI (sR_ c (100 - c) t w : Int)) := by
  have p2 : 2 ^ t ≤ 64 := by
    have : ∀ t : Fin 7, 2 ^ t.val ≤ 64 := by decide
    exact this ⟨t, ht.2⟩
  have pw : x_shl 1 (jI (t : Int)) = jI ((2 ^ t : Nat) : Int) := pw_ ⟨t, ht.2⟩
  unfold f_X12_oddsOf
  rw [show (964 : Int32) = jI 964 from rfl, show (1 : Int32) = jI 1 from rfl, jI_add, jI_sub, if_pos (jI_b (by omega) (by omega) (by omega)), jI_nat (by omega) (by omega), show (964 + (t : Int) - 1).toNat = 963 + t by omega, wd_j, hc, xl_, jI_l (by omega) (by omega)]
  refine x_up0 (P := fun m n => f_X12_oddsOf_20 x h m (jI t) (jI w) (lI (c : Int)) (lI (sS_ c (100 - c) t w n : Int)) (jI (n : Int)) = some (lI (sR_ c (100 - c) t w : Int))) (2 ^ t) (by omega) (fun m => by
    unfold f_X12_oddsOf_20
    rw [pw, if_pos (Int32.le_refl _), r_o99 ht.2]
    rfl) (fun m n hn ih => by
    have pb : pc8_ n ≤ 8 := by
      have : ∀ s : Fin 256, pc8_ s.val ≤ 8 := by decide +kernel
      exact this ⟨n, by omega⟩
    have e : sS_ c (100 - c) t w (n + 1) = sS_ c (100 - c) t w n + (if w ≤ pc8_ n then pd_ c (100 - c) n t else 0) := rfl
    rw [e] at ih
    rw [f_X12_oddsOf_20, pw, if_neg (fun q => absurd ((jI_le (by omega) (by omega) (by omega) (by omega)).mp q) (by omega)), bc_e h (by omega)]
    by_cases q : w ≤ pc8_ n
    · rw [if_pos q] at ih
      rw [if_pos ((jI_le (by omega) (by omega) (by omega) (by omega)).mpr (by omega)), r_o46 ht.2 (by omega) hb rfl, lN_a, jI_s]
      exact ih
    · rw [if_neg q, Nat.add_zero] at ih
      rw [if_neg (fun q => absurd ((jI_le (by omega) (by omega) (by omega) (by omega)).mp q) (by omega))]
      unfold f_X12_oddsOf_90
      rw [jI_s]
      exact ih)
def bs_ (O : Nat → Int64) : Nat → Nat
  | 0 => 1
  | n + 1 => if lg_cmp (O (n + 2)) (O (bs_ O n)) ≤ 0 then bs_ O n else n + 2
theorem bs_b {O : Nat → Int64} : ∀ n, 1 ≤ bs_ O n ∧ bs_ O n ≤ n + 1 := by
  intro n
  induction n with
  | zero => simp [bs_]
  | succ n ih =>
    unfold bs_
    split <;> omega
theorem ex_o {gh : Nat} {x : Nat} {K : XK} {h : XH} (I : Inv gh x K h) (w : Nat) (hw : w < 7) : ∃ O : Nat → Int64, (∀ t : Nat, 1 ≤ t → t < 7 → f_X11_oddsOfWhole x h (jI (t : Int)) (jI (w : Int)) = some (O t)) ∧ ∀ H : XH, wd x H = wd x h → ∀ t : Nat, 1 ≤ t → t < 7 → f_X12_oddsOf x H (jI (t : Int)) (jI (w : Int)) = some (O t) := by
  have cb : ∀ t : Nat, 1 ≤ t → t < 7 → ∃ c : Nat, wd x h (963 + t) = c ∧ c ≤ 100 := fun t h1 h2 => by
    have := I.1.2.2.2.2.2.2.2.1 (t - 1) (by omega)
    rw [show 964 + (t - 1) = 963 + t by omega] at this
    exact ⟨(wd x h (963 + t)).toNat, by omega, by omega⟩
  refine ⟨fun t => lI (sR_ (wd x h (963 + t)).toNat (100 - (wd x h (963 + t)).toNat) t w : Int), fun t h1 h2 => ?_, fun H eH t h1 h2 => ?_⟩
  · obtain ⟨c, e, b⟩ := cb t h1 h2
    have q := c_odds I ⟨h1, h2⟩ hw e b
    show _ = some (lI (sR_ (wd x h (963 + t)).toNat (100 - (wd x h (963 + t)).toNat) t w : Int))
    rw [q, e, Int.toNat_natCast]
  · obtain ⟨c, e, b⟩ := cb t h1 h2
    have q := r_odds (x := x) (h := H) ⟨h1, h2⟩ hw (by rw [eH]; exact e) b
    show _ = some (lI (sR_ (wd x h (963 + t)).toNat (100 - (wd x h (963 + t)).toNat) t w : Int))
    rw [q, e, Int.toNat_natCast]
theorem c_r34 {x : Nat} {h : XH} {w : Nat} {v2 : Int32} {O : Nat → Int64} (hO : ∀ t : Nat, 1 ≤ t → t < 7 → f_X11_oddsOfWhole x h (jI (t : Int)) (jI (w : Int)) = some (O t)) : f_X11_risk_34 x x_FU h (jI w) v2 1 (O 1) 2 = some (.inr (if v2 = 0 then (jI (bs_ O 5 : Int)).toInt64 else O (bs_ O 5)), h) := by
  refine x_up0 (P := fun m n => f_X11_risk_34 x m h (jI w) v2 (jI (bs_ O n : Int)) (O (bs_ O n)) (jI ((2 + n : Nat) : Int)) = some (.inr (if v2 = 0 then (jI (bs_ O 5 : Int)).toInt64 else O (bs_ O 5)), h)) 5 (by omega) (fun m => by
    unfold f_X11_risk_34
    rw [if_pos (by decide)]) (fun m n hn ih => by
    rw [f_X11_risk_34, if_neg (show ¬ (6 : Int32) < jI ((2 + n : Nat) : Int) from fun q => absurd ((jI_lt (a := 6) (by omega) (by omega) (by omega) (by omega)).mp q) (by omega)), hO (2 + n) (by omega) (by omega), Option.bind_some, jI_s]
    have e : bs_ O (n + 1) = if lg_cmp (O (n + 2)) (O (bs_ O n)) ≤ 0 then bs_ O n else n + 2 := rfl
    rw [e, show n + 2 = 2 + n by omega] at ih
    by_cases c : lg_cmp (O (2 + n)) (O (bs_ O n)) ≤ 0
    · rw [if_pos c] at ih
      rw [if_pos c, if_pos c]
      exact ih
    · rw [if_neg c] at ih
      rw [if_neg c, if_neg c]
      exact ih)
theorem r_r35 {x : Nat} {h : XH} {w : Nat} {v2 : Int32} {O : Nat → Int64} (hO : ∀ t : Nat, 1 ≤ t → t < 7 → f_X12_oddsOf x h (jI (t : Int)) (jI (w : Int)) = some (O t)) : f_X12_risk_35 x x_FU h (jI w) v2 1 2 = some (if v2 = 0 then (jI (bs_ O 5 : Int)).toInt64 else O (bs_ O 5), h) := by
  refine x_up0 (P := fun m n => f_X12_risk_35 x m h (jI w) v2 (jI (bs_ O n : Int)) (jI ((2 + n : Nat) : Int)) = some (if v2 = 0 then (jI (bs_ O 5 : Int)).toInt64 else O (bs_ O 5), h)) 5 (by omega) (fun m => by
    have b := bs_b (O := O) 5
    unfold f_X12_risk_35
    rw [if_pos (by decide), hO _ b.1 (by omega), Option.bind_some]
    by_cases c : v2 = 0
    · rw [if_pos c, if_pos c]
    · rw [if_neg c, if_neg c]) (fun m n hn ih => by
    have b := bs_b (O := O) n
    rw [f_X12_risk_35, if_neg (show ¬ (6 : Int32) < jI ((2 + n : Nat) : Int) from fun q => absurd ((jI_lt (a := 6) (by omega) (by omega) (by omega) (by omega)).mp q) (by omega)), hO (2 + n) (by omega) (by omega), Option.bind_some, hO _ b.1 (by omega), Option.bind_some, jI_s]
    have e : bs_ O (n + 1) = if lg_cmp (O (n + 2)) (O (bs_ O n)) ≤ 0 then bs_ O n else n + 2 := rfl
    rw [e, show n + 2 = 2 + n by omega] at ih
    by_cases c : lg_cmp (O (2 + n)) (O (bs_ O n)) ≤ 0
    · rw [if_pos c] at ih
      rw [if_pos c]
      exact ih
    · rw [if_neg c] at ih
      rw [if_neg c]
      exact ih)
theorem P_row34 {gh : Nat} {x : Nat} {K : XK} {h : XH} (I : Inv gh x K h) (a1 a2 : Int32) : ∃ h', f_row34 x h a1 a2 = some h' ∧ Inv gh x K h' := by
  obtain ⟨z1, z1a, z1b, rfl⟩ := jI_ex a1
  unfold f_row34 f_L_risk
  generalize (if a2 = 0 then (0 : Int32) else 1) = v2
  have g0 : jI z1 < (0 : Int32) ↔ z1 < 0 := jlt0 z1a z1b
  have g1 : jI z1 ≤ (6 : Int32) ↔ z1 ≤ 6 := jI_le (b := 6) z1a z1b (by omega) (by omega)
  have g2 : (6 : Int32) < jI z1 ↔ 6 < z1 := jI_lt (a := 6) (by omega) (by omega) z1a z1b
  have i1 : ∀ h : XH, (if f_X12_in h (jI z1) 0 6 = 0 then (1 : Int32) else 0) = if 0 ≤ z1 ∧ z1 ≤ 6 then jI 0 else jI 1 := fun h => by
    unfold f_X12_in
    simp only [g0, g2]
    by_cases c : z1 < 0
    · rw [if_pos c, if_pos rfl, if_neg (by omega)]; rfl
    · by_cases d : 6 < z1
      · rw [if_neg c, if_pos d, if_pos rfl, if_neg (by omega)]; rfl
      · rw [if_neg c, if_neg d, if_neg (by decide), if_pos (by omega)]; rfl
  by_cases c1 : 0 ≤ z1 ∧ z1 ≤ 6
  · obtain ⟨w, rfl⟩ : ∃ w : Nat, z1 = w := ⟨z1.toNat, by omega⟩
    obtain ⟨O, o1, o2⟩ := ex_o I w (by omega)
    have cr : f_X11_risk x h (jI w) v2 = some (.inr (if v2 = 0 then (jI (bs_ O 5 : Int)).toInt64 else O (bs_ O 5)), h) := by
      unfold f_X11_risk
      rw [if_neg (fun q => absurd (g0.mp q) (by omega)), if_pos (g1.mpr c1.2), show f_X11_oddsOfWhole x h 1 (jI (w : Int)) = _ from o1 1 (by omega) (by omega), Option.bind_some, c_r34 o1]
    have F : Fr x h (x_i (x_l h (x + 76) (0 : Int32).toNatClampNeg (if v2 = 0 then (jI (bs_ O 5 : Int)).toInt64 else O (bs_ O 5))) (x + 64) 0 (jI 0)) := Fr.l.tr fr_0
    have rr : f_X12_risk x (x_l h (x + 76) (0 : Int32).toNatClampNeg (if v2 = 0 then (jI (bs_ O 5 : Int)).toInt64 else O (bs_ O 5))) (jI w) v2 = some (if v2 = 0 then (jI (bs_ O 5 : Int)).toInt64 else O (bs_ O 5), x_i (x_l h (x + 76) (0 : Int32).toNatClampNeg (if v2 = 0 then (jI (bs_ O 5 : Int)).toInt64 else O (bs_ O 5))) (x + 64) 0 (jI 0)) := by
      unfold f_X12_risk
      rw [xl_, i1, if_pos c1, show ∀ H : XH, x_i H (x + 64) 0 (0 : Int32) = x_i H (x + 64) 0 (jI 0) from fun _ => rfl, tvz, Option.bind_some, if_pos (show jI 0 = (0 : Int32) from rfl), r_r35 (o2 _ F.ew)]
    refine ⟨_, ?_, I.fr F⟩
    generalize (if v2 = 0 then (jI (bs_ O 5 : Int)).toInt64 else O (bs_ O 5)) = V at cr rr
    rw [cr, lb_v, Option.bind_some]
    show Option.bind (f_X12_risk x (x_l h (x + 76) (0 : Int32).toNatClampNeg V) (jI w) v2) _ = _
    rw [rr, Option.bind_some]
    have t : f_X12_thrown x (x_i (x_l h (x + 76) (0 : Int32).toNatClampNeg V) (x + 64) 0 (jI 0)) = 0 := by
      unfold f_X12_thrown
      exact gi_s
    have u : (x_i (x_l h (x + 76) (0 : Int32).toNatClampNeg V) (x + 64) 0 (jI 0)).2.1 (x + 76) (0 : Int32).toNatClampNeg = V := by
      rw [gil, gl2, if_pos ⟨rfl, rfl⟩]
    rw [if_pos t, if_pos rfl, if_pos (by decide), u, if_pos (cmp_0 rfl)]
  · refine ⟨x_i (x_i h (x + 64) 0 (jI 0)) (x + 64) 0 (jI 1), ?_, I.fr fr_t⟩
    have cr : f_X11_risk x h (jI z1) v2 = some (.inl 1, h) := by
      unfold f_X11_risk
      by_cases d : z1 < 0
      · rw [if_pos (g0.mpr d)]; rfl
      · rw [if_neg (fun q => d (g0.mp q)), if_neg (fun q => absurd (g1.mp q) (by omega))]; rfl
    rw [cr, lb_e (j := 0) rfl, Option.bind_some]
    have rr : f_X12_risk x h (jI z1) v2 = some (0, x_i (x_i h (x + 64) 0 (jI 0)) (x + 64) 0 (jI 1)) := by
      unfold f_X12_risk
      rw [xl_, i1, if_neg c1, show x_i h (x + 64) 0 (0 : Int32) = x_i h (x + 64) 0 (jI 0) from rfl, tvo, Option.bind_some, if_neg (show ¬ jI 1 = (0 : Int32) by decide)]
      rfl
    rw [rr, Option.bind_some]
    have t : f_X12_thrown x (x_i (x_i h (x + 64) 0 (jI 0)) (x + 64) 0 (jI 1)) = nI (0 + 1) := by
      unfold f_X12_thrown
      rw [gi_s]
      rfl
    rw [if_pos t, if_neg (show ¬ nI (0 + 1) = 0 by decide)]
