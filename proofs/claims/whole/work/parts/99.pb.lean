/-! ===== plans, component ===== -/
def SF (x : Nat) (h h1 : XH) : Prop := (∀ a, (∀ o, o ∈ sc_ → a ≠ x + o) → h1.1 a = h.1 a) ∧ h1.2 = h.2
theorem SF.rf {x : Nat} {h : XH} : SF x h h := ⟨fun _ _ => rfl, rfl⟩
theorem SF.tr {x : Nat} {h h1 h2 : XH} (a : SF x h h1) (b : SF x h1 h2) : SF x h h2 := ⟨fun q hq => (b.1 q hq).trans (a.1 q hq), b.2.trans a.2⟩
theorem SF.fr {x : Nat} {h h1 : XH} (s : SF x h h1) : Fr x h h1 := by
  have q : ∀ o, o ∈ sc_ → o ≠ 1 ∧ o ≠ 64 := by decide
  have e1 : h1.1 (x + 1) = h.1 (x + 1) := s.1 _ (fun o ho => by have := q o ho; omega)
  have e64 : h1.1 (x + 64) = h.1 (x + 64) := s.1 _ (fun o ho => by have := q o ho; omega)
  exact ⟨fun a h1 _ _ => s.1 a h1, by rw [e1], by rw [e1], by rw [e64], by rw [e64], by rw [e64], by rw [s.2]⟩
theorem SF.i {x : Nat} {h : XH} {o j : Nat} {v : Int32} (m : o ∈ sc_) : SF x h (x_i h (x + o) j v) := ⟨fun a ha => gi_n (ha o m), rfl⟩
theorem SF.o3 {x : Nat} {h h2 : XH} {o1 o2 o3 : Nat} (f : ∀ a, a ≠ x + o1 → a ≠ x + o2 → a ≠ x + o3 → h2.1 a = h.1 a) (e : h2.2 = h.2) (m1 : o1 ∈ sc_) (m2 : o2 ∈ sc_) (m3 : o3 ∈ sc_) : SF x h h2 := ⟨fun a ha => f a (ha _ m1) (ha _ m2) (ha _ m3), e⟩
theorem SF.o2 {x : Nat} {h h2 : XH} {o1 o2 : Nat} (f : ∀ a, a ≠ x + o1 → a ≠ x + o2 → h2.1 a = h.1 a) (e : h2.2 = h.2) (m1 : o1 ∈ sc_) (m2 : o2 ∈ sc_) : SF x h h2 := ⟨fun a ha => f a (ha _ m1) (ha _ m2), e⟩
theorem ff_6 {α : Type} {st : Nat → α → α} {H : Nat} (S : α) (h : ∀ k, H ≤ k → ∀ S, st k S = S) : ∀ n, H ≤ n → ff_ st n S = ff_ st H S := by
  intro n hn
  obtain ⟨d, rfl⟩ := Nat.exists_eq_add_of_le hn
  rw [ff_a]
  exact ff_i _ _ (fun k _ S => h _ (by omega) S)
theorem dS_6 {W : Nat → Nat → Int} {H n : Nat} (hH : H ≤ 6) (hW : ∀ k d, H ≤ d → W k d < 0) : ∀ rem used sum pre S, dS_ W 6 n rem used sum pre S = dS_ W H n rem used sum pre S := by
  intro rem
  induction rem with
  | zero => intros; rfl
  | succ rem ih =>
    intro used sum pre S
    show ff_ (fun h S' => if 0 ≤ W (n - (rem + 1)) h ∧ used.testBit h = false then dS_ W 6 n rem (used ||| 2 ^ h) (sum + W (n - (rem + 1)) h) (pre ++ [h]) S' else S') 6 S = ff_ (fun h S' => if 0 ≤ W (n - (rem + 1)) h ∧ used.testBit h = false then dS_ W H n rem (used ||| 2 ^ h) (sum + W (n - (rem + 1)) h) (pre ++ [h]) S' else S') H S
    rw [ff_6 S (fun k hk S => if_neg (fun q => absurd q.1 (by have := hW (n - (rem + 1)) k hk; omega))) 6 hH]
    refine ff_c _ _ (fun k hk S' => ?_)
    rw [ih]
theorem gD_l {l : List Nat} {i k : Nat} (h : k < l.length) : (l ++ [i]).getD k 0 = l.getD k 0 := by
  simp [List.getD, List.getElem?_append, h]
theorem gD_r {l : List Nat} {i : Nat} : (l ++ [i]).getD l.length 0 = i := by
  simp [List.getD]
def PlS (x : Nat) (h : XH) (W : Nat → Nat → Int) (n : Nat) (S : Int × List Nat) : Prop := h.1 (x + 54) 4 = jI n ∧ h.1 (x + 54) 5 = jI S.1 ∧ (∀ k d, k < n → d < 6 → h.1 (x + 56) (6 * k + d) = jI (W k d)) ∧ (0 ≤ S.1 → ∀ k, k < n → h.1 (x + 58) k = jI (S.2.getD k 0 : Nat)) ∧ -1 ≤ S.1 ∧ S.1 ≤ 26000
theorem c_stl {x n : Nat} {W : Nat → Nat → Int} (hn : n ≤ 5) (hW : ∀ k d, -1 ≤ W k d ∧ W k d ≤ 5200) : ∀ (rem at' used : Nat) (sum : Int) (pre : List Nat) (S : Int × List Nat) (d : Nat) (h : XH), at' + rem = n → pre.length = at' → used < 64 → 0 ≤ sum → sum ≤ 5200 * (at' : Int) → rem < d → PlS x h W n S → (∀ k, k < at' → h.1 (x + 57) k = jI (pre.getD k 0 : Nat)) →
    ∃ h2, f_X3_settle x d h (jI at') (jI used) (jI sum) = some h2 ∧ PlS x h2 W n (dS_ W 6 n rem used sum pre S) ∧ (∀ k, k < at' → h2.1 (x + 57) k = h.1 (x + 57) k) ∧ (∀ a, a ≠ x + 54 → a ≠ x + 57 → a ≠ x + 58 → h2.1 a = h.1 a) ∧ h2.2 = h.2 := by
  intro rem
  induction rem with
  | zero =>
    intro at' used sum pre S d h e1 e2 e3 e4 e5 e6 ps hp
    obtain ⟨d, rfl⟩ : ∃ d', d = d' + 1 := ⟨d - 1, by omega⟩
    obtain ⟨s1, s2, s3, s4, s5, s6⟩ := ps
    rw [f_X3_settle]
    unfold f_X3_settleB
    rw [s1, if_neg (fun q => absurd ((jI_lt (by omega) (by omega) (by omega) (by omega)).mp q) (by omega)), s2]
    show ∃ h2, _ ∧ PlS x h2 W n (if S.1 < sum then (sum, pre) else S) ∧ _
    by_cases c : S.1 < sum
    · rw [if_neg (fun q => absurd ((jI_le (by omega) (by omega) (by omega) (by omega)).mp q) (by omega)), if_pos c, xl_]
      have g4 : (x_i h (x + 54) 5 (jI sum)).1 (x + 54) 4 = jI n := by rw [gi_k (by omega)]; exact s1
      rw [g4, nat_ (show n < 2147483648 by omega)]
      have ok : x_cpok 0 0 (jI (n : Int)) 5 5 = true := by
        unfold x_cpok
        rw [nat_ (by omega)]
        have q : ¬ jI (n : Int) < 0 := fun z => absurd ((jlt0 (by omega) (by omega)).mp z) (by omega)
        have z0 : (0 : Int32).toNatClampNeg = 0 := rfl
        simp only [z0, decide_eq_true_iff]
        exact ⟨by decide, by decide, q, by omega, by omega⟩
      rw [if_pos ok, xl_]
      refine ⟨_, rfl, ⟨?_, ?_, fun k dd hk hd => ?_, fun _ k hk => ?_, ?_, ?_⟩, fun k hk => ?_, fun a a1 a2 a3 => ?_, rfl⟩
      · show (if x + 54 = x + 58 ∧ _ then _ else (x_i h (x + 54) 5 (jI sum)).1 (x + 54) 4) = _
        rw [if_neg (fun q => absurd q.1 (by omega))]
        exact g4
      · show (if x + 54 = x + 58 ∧ _ then _ else (x_i h (x + 54) 5 (jI sum)).1 (x + 54) 5) = _
        rw [if_neg (fun q => absurd q.1 (by omega))]
        exact gi_s
      · show (if x + 56 = x + 58 ∧ _ then _ else (x_i h (x + 54) 5 (jI sum)).1 (x + 56) (6 * k + dd)) = _
        rw [if_neg (fun q => absurd q.1 (by omega)), gi_a (by omega)]
        exact s3 k dd hk hd
      · have z0 : (0 : Int32).toNatClampNeg = 0 := rfl
        show (if x + 58 = x + 58 ∧ (0 : Int32).toNatClampNeg ≤ k ∧ k < (0 : Int32).toNatClampNeg + n then (x_i h (x + 54) 5 (jI sum)).1 (x + 57) ((0 : Int32).toNatClampNeg + (k - (0 : Int32).toNatClampNeg)) else _) = _
        rw [z0, if_pos ⟨rfl, by omega, by omega⟩, gi_a (by omega), show 0 + (k - 0) = k by omega]
        exact hp k (by omega)
      · show -1 ≤ sum
        omega
      · show sum ≤ 26000
        omega
      · show (if x + 57 = x + 58 ∧ _ then _ else (x_i h (x + 54) 5 (jI sum)).1 (x + 57) k) = _
        rw [if_neg (fun q => absurd q.1 (by omega)), gi_a (by omega)]
      · funext k
        show (if a = x + 58 ∧ _ then _ else (x_i h (x + 54) 5 (jI sum)).1 a k) = _
        rw [if_neg (fun q => absurd q.1 a3), gi_a a1]
    · rw [if_pos ((jI_le (by omega) (by omega) (by omega) (by omega)).mpr (by omega)), if_neg c]
      exact ⟨h, rfl, ⟨s1, s2, s3, s4, s5, s6⟩, fun _ _ => rfl, fun _ _ _ _ => rfl, rfl⟩
  | succ rem ih =>
    intro at' used sum pre S d h e1 e2 e3 e4 e5 e6 ps hp
    obtain ⟨d, rfl⟩ : ∃ d', d = d' + 1 := ⟨d - 1, by omega⟩
    have en : n - (rem + 1) = at' := by omega
    rw [f_X3_settle]
    unfold f_X3_settleB
    rw [ps.1, if_pos ((jI_lt (by omega) (by omega) (by omega) (by omega)).mpr (by omega))]
    show ∃ h2, _ ∧ PlS x h2 W n (ff_ (fun h S' => if 0 ≤ W (n - (rem + 1)) h ∧ used.testBit h = false then dS_ W 6 n rem (used ||| 2 ^ h) (sum + W (n - (rem + 1)) h) (pre ++ [h]) S' else S') 6 S) ∧ _
    rw [en]
    generalize hst : (fun h S' => if 0 ≤ W at' h ∧ used.testBit h = false then dS_ W 6 n rem (used ||| 2 ^ h) (sum + W at' h) (pre ++ [h]) S' else S') = st
    have key := x_up0 (P := fun m i => ∀ h1 : XH, PlS x h1 W n (ff_ st i S) → (∀ k, k < at' → h1.1 (x + 57) k = h.1 (x + 57) k) → (∀ a, a ≠ x + 54 → a ≠ x + 57 → a ≠ x + 58 → h1.1 a = h.1 a) → h1.2 = h.2 → ∃ h2, f_X3_settle_42 (f_X3_settle x d) x m h1 (jI at') (jI used) (jI sum) (jI (i : Int)) = some h2 ∧ PlS x h2 W n (ff_ st 6 S) ∧ (∀ k, k < at' → h2.1 (x + 57) k = h.1 (x + 57) k) ∧ (∀ a, a ≠ x + 54 → a ≠ x + 57 → a ≠ x + 58 → h2.1 a = h.1 a) ∧ h2.2 = h.2) 6 (by omega) (fun m h1 p1 p2 p3 p4 => by
      refine ⟨h1, ?_, p1, p2, p3, p4⟩
      rw [f_X3_settle_42, if_pos (by decide)]) (fun m i hi ihi h1 p1 p2 p3 p4 => by
      have wb := hW at' i
      have es : ff_ st (i + 1) S = if 0 ≤ W at' i ∧ used.testBit i = false then dS_ W 6 n rem (used ||| 2 ^ i) (sum + W at' i) (pre ++ [i]) (ff_ st i S) else ff_ st i S := by
        show st i (ff_ st i S) = _
        rw [← hst]
      have ix : jI (at' : Int) * 6 + jI (i : Int) = jI ((6 * at' + i : Nat) : Int) := by
        rw [show (6 : Int32) = jI 6 from rfl, jI_mul, jI_add]
        congr 1
        omega
      rw [f_X3_settle_42, if_neg (show ¬ (6 : Int32) ≤ jI (i : Int) from fun q => absurd ((jI_le (a := 6) (by omega) (by omega) (by omega) (by omega)).mp q) (by omega)), ix, if_pos (jI_b (by omega) (by omega) (by omega)), xl_, nat_ (by omega), p1.2.2.1 at' i (by omega) hi]
      unfold f_X3_settle_103
      rw [jI_s i]
      by_cases c : W at' i = -1
      · rw [if_pos ((jm1 (by omega) (by omega)).mpr c)]
        refine ihi h1 ?_ p2 p3 p4
        rw [es, if_neg (fun q => absurd q.1 (by omega))]
        exact p1
      · rw [if_neg (fun q => c ((jm1 (by omega) (by omega)).mp q)), bi_at (by omega), bi_n (by omega) (by omega)]
        by_cases b : used.testBit i = true
        · rw [if_pos b, if_neg (by decide)]
          refine ihi h1 ?_ p2 p3 p4
          rw [es, if_neg (fun q => by rw [b] at q; exact absurd q.2 (by decide))]
          exact p1
        · have oj := oj_6 e3 (show i < 6 by omega)
          have b' : used.testBit i = false := by simpa using b
          rw [if_neg b, if_pos rfl, if_pos (jI_b (by omega) (by omega) (by omega)), xl_, nat_ (by omega), oj.1, jI_s at', jI_add]
          rw [es, if_pos ⟨by omega, b'⟩] at ihi
          obtain ⟨q1, q2, q3, q4, q5, q6⟩ := p1
          obtain ⟨h5, k1, k2, k3, k4, k5⟩ := ih (at' + 1) (used ||| 2 ^ i) (sum + W at' i) (pre ++ [i]) (ff_ st i S) d (x_i h1 (x + 57) at' (jI (i : Int))) (by omega) (by rw [List.length_append, e2]; rfl) oj.2 (by omega) (by rw [Int.natCast_add]; omega) (by omega) ⟨by rw [gi_a (by omega)]; exact q1, by rw [gi_a (by omega)]; exact q2, fun k dd hk hd => by rw [gi_a (by omega)]; exact q3 k dd hk hd, fun hh k hk => by rw [gi_a (by omega)]; exact q4 hh k hk, q5, q6⟩ (fun k hk => by
            by_cases e : k = at'
            · rw [e, gi_s]
              conv => rhs; rw [← e2]
              rw [gD_r]
            · rw [gi_k e, p2 k (by omega), gD_l (by omega)]
              exact hp k (by omega))
          rw [k1, Option.bind_some]
          exact ihi h5 k2 (fun k hk => by rw [k3 k (by omega), gi_k (by omega), p2 k hk]) (fun a a1 a2 a3 => by rw [k4 a a1 a2 a3, gi_n a2, p3 a a1 a2 a3]) (by rw [k5]; exact p4))
    exact key h ps (fun _ _ => rfl) (fun _ _ _ _ => rfl) rfl
/-! the packs that are planned, and what each would be worth -/
def qs_ (s : Nat) : Nat → List Nat
  | 0 => []
  | i + 1 => if s.testBit i = true then qs_ s i ++ [i] else qs_ s i
theorem qs_lt {s : Nat} : ∀ i k, k < (qs_ s i).length → (qs_ s i).getD k 0 < i := by
  intro i
  induction i with
  | zero => intro k hk; exact absurd hk (by simp [qs_])
  | succ i ih =>
    intro k hk
    unfold qs_ at hk ⊢
    by_cases c : s.testBit i = true
    · rw [if_pos c] at hk ⊢
      rw [List.length_append] at hk
      by_cases e : k = (qs_ s i).length
      · rw [e, gD_r]; omega
      · have : k < (qs_ s i).length := by
          have : [i].length = 1 := rfl
          omega
        rw [gD_l this]
        have := ih k this
        omega
    · rw [if_neg c] at hk ⊢
      have := ih k hk
      omega
theorem qs_le {s : Nat} : ∀ i, (qs_ s i).length ≤ i := by
  intro i
  induction i with
  | zero => simp [qs_]
  | succ i ih =>
    unfold qs_
    split
    · rw [List.length_append]
      have : [i].length = 1 := rfl
      omega
    · omega
theorem qs_mo {s : Nat} : ∀ d i, (qs_ s i).length ≤ (qs_ s (i + d)).length := by
  intro d
  induction d with
  | zero => intro i; exact Nat.le_refl _
  | succ d ih =>
    intro i
    have := ih i
    rw [← Nat.add_assoc]
    conv => rhs; unfold qs_
    split
    · rw [List.length_append]
      omega
    · exact this
theorem qs_8 : ∀ s : Fin 256, (qs_ s.val 8).length = pc8_ s.val := by decide +kernel
def Wl (w : Nat → Int) (t : Nat) (per sec : Int) (H : Nat) (l : List Nat) (k d : Nat) : Int := if k < l.length ∧ d < H then si_ w t (l.getD k 0) d per sec else -1
theorem Wl_n {w : Nat → Int} {t : Nat} {per sec : Int} {H : Nat} {l : List Nat} {k d : Nat} (h : l.length ≤ k ∨ H ≤ d) : Wl w t per sec H l k d = -1 := if_neg (fun q => by omega)
theorem Wl_a {w : Nat → Int} {t : Nat} {per sec : Int} {H : Nat} {l : List Nat} {i k d : Nat} (h : k ≠ l.length) : Wl w t per sec H (l ++ [i]) k d = Wl w t per sec H l k d := by
  unfold Wl
  have e : (l ++ [i]).length = l.length + 1 := by rw [List.length_append]; rfl
  by_cases c : k < l.length ∧ d < H
  · rw [if_pos c, if_pos ⟨by omega, c.2⟩, gD_l c.1]
  · rw [if_neg c, if_neg (fun q => c ⟨by omega, q.2⟩)]
def WF (x : Nat) (h : XH) (l : List Nat) (F : Nat → Nat → Int) : Prop := h.1 (x + 54) 4 = jI l.length ∧ h.1 (x + 54) 5 = jI (-1) ∧ (∀ k, k < l.length → h.1 (x + 55) k = jI (l.getD k 0 : Nat)) ∧ ∀ k d, k < 5 → d < 6 → h.1 (x + 56) (6 * k + d) = jI (F k d)
theorem c_p77 {gh : Nat} {x : Nat} {K : XK} {h : XH} (I : Inv gh x K h) {i t H : Nat} {l : List Nat} (hH : wd x h 0 = H) (hi : (i : Int) < wd x h 1) (ht : (t : Int) < wd x h 2) {per sec : Int} {v2 v5 : Int32} {k43 : XH → Int32 → Int32 → Int32 → Int32 → Int32 → Int32 → Option ((Nat ⊕ Int32) × XH)} (hl : l.length < 5) (b2 : 1 ≤ per ∧ per ≤ 3) (b3 : 1 ≤ sec ∧ sec ≤ 60) (hw : WF x h (l ++ [i]) (fun k d => if k = l.length ∧ 0 ≤ d then -1 else Wl (wd x h) t per sec H (l ++ [i]) k d)) :
    ∃ h2, f_X11_plan_77 k43 K x x_FU h (jI t) v2 (jI per) (jI sec) v5 (jI i) (jI 0) = k43 h2 (jI t) v2 (jI per) (jI sec) v5 (jI ((i + 1 : Nat) : Int)) ∧ WF x h2 (l ++ [i]) (Wl (wd x h) t per sec H (l ++ [i])) ∧ SF x h h2 := by
  have w0 := I.w0
  have w1 := I.w1
  have w2 := I.w2
  have el : (l ++ [i]).length = l.length + 1 := by rw [List.length_append]; rfl
  have key := x_up0 (P := fun m j => ∀ h1 : XH, SF x h h1 → WF x h1 (l ++ [i]) (fun k d => if k = l.length ∧ j ≤ d then -1 else Wl (wd x h) t per sec H (l ++ [i]) k d) → ∃ h2, f_X11_plan_77 k43 K x m h1 (jI t) v2 (jI per) (jI sec) v5 (jI i) (jI (j : Int)) = k43 h2 (jI t) v2 (jI per) (jI sec) v5 (jI ((i + 1 : Nat) : Int)) ∧ WF x h2 (l ++ [i]) (Wl (wd x h) t per sec H (l ++ [i])) ∧ SF x h h2) H (by omega) (fun m h1 f1 wf => by
    have J := I.fr f1.fr
    have e1 : h1.1 (x + 9) 1 = jI (wd x h1 0) := J.2.1.1.1
    rw [f1.fr.ew] at e1
    refine ⟨h1, ?_, ⟨wf.1, wf.2.1, wf.2.2.1, fun k d hk hd => ?_⟩, f1⟩
    · rw [f_X11_plan_77, e1, if_pos ((jI_le (by omega) (by omega) (by omega) (by omega)).mpr (by omega))]
      unfold f_X11_plan_127
      rw [jI_s i]
    · rw [wf.2.2.2 k d hk hd]
      dsimp only
      by_cases c : k = l.length ∧ H ≤ d
      · rw [if_pos c, Wl_n (.inr c.2)]
      · rw [if_neg c]) (fun m j hj ih h1 f1 wf => by
    have J := I.fr f1.fr
    have ew := f1.fr.ew
    have e1 : h1.1 (x + 9) 1 = jI (wd x h1 0) := J.2.1.1.1
    rw [ew] at e1
    obtain ⟨r, hr, ct⟩ := J.law (t := t) (by rw [ew]; exact ht)
    have hx := J.wl (t := t) (by rw [ew]; exact ht)
    have s1 := c_sif J (p := i) (t := t) (r := r) (by rw [ew]; exact hi) ct hx (hs := (j : Int)) (per := per) (sec := sec) (by rw [ew]; omega) b2 b3
    rw [ew] at s1
    obtain ⟨h3, s1, s2, s3⟩ := s1
    have f3 : SF x h1 h3 := SF.o3 s2 s3 (by decide) (by decide) (by decide)
    have e4 : h3.1 (x + 54) 4 = jI ((l.length + 1 : Nat) : Int) := by
      rw [s2 _ (by omega) (by omega) (by omega), wf.1, el]
    rw [f_X11_plan_77, e1, if_neg (fun q => absurd ((jI_le (by omega) (by omega) (by omega) (by omega)).mp q) (by omega)), if_pos (jI_b (by omega) (by omega) (by omega)), nat_ (by omega), hr, s1, Option.bind_some]
    unfold f_X3_setWorth
    have ix : (jI ((l.length + 1 : Nat) : Int) - 1) * 6 + jI (j : Int) = jI ((6 * l.length + j : Nat) : Int) := by
      rw [show (6 : Int32) = jI 6 from rfl, show (1 : Int32) = jI 1 from rfl, jI_sub, jI_mul, jI_add]
      congr 1
      omega
    rw [e4, if_neg (show ¬ jI ((l.length + 1 : Nat) : Int) ≤ (0 : Int32) from fun q => absurd ((jI_le (b := 0) (by omega) (by omega) (by omega) (by omega)).mp q) (by omega)), ix, if_pos (jI_b (by omega) (by omega) (by omega)), nat_ (by omega), xl_, Option.bind_some, jI_s j]
    refine ih _ (f1.tr (f3.tr (SF.i (by decide)))) ⟨?_, ?_, fun k hk => ?_, fun k d hk hd => ?_⟩
    · rw [gi_a (by omega), e4, el]
    · rw [gi_a (by omega), s2 _ (by omega) (by omega) (by omega)]
      exact wf.2.1
    · rw [gi_a (by omega), s2 _ (by omega) (by omega) (by omega)]
      exact wf.2.2.1 k hk
    · rw [gi_, s2 _ (by omega) (by omega) (by omega), wf.2.2.2 k d hk hd]
      dsimp only
      by_cases c : k = l.length
      · by_cases e : d = j
        · rw [if_pos ⟨rfl, by omega⟩, if_neg (by omega)]
          unfold Wl
          rw [if_pos ⟨by omega, by omega⟩, c, gD_r, e]
        · rw [if_neg (by omega)]
          by_cases g : j ≤ d
          · rw [if_pos ⟨c, g⟩, if_pos ⟨c, by omega⟩]
          · rw [if_neg (by omega), if_neg (by omega)]
      · rw [if_neg (by omega), if_neg (by omega), if_neg (by omega)])
  exact key h SF.rf hw
theorem c_p43 {gh : Nat} {x : Nat} {K : XK} {h : XH} (I : Inv gh x K h) {t H P s : Nat} (hH : wd x h 0 = H) (hP : wd x h 1 = P) (ht : (t : Int) < wd x h 2) {per sec : Int} {v5 : Int32} (hs : s < 256) (hq : (qs_ s P).length ≤ 5) (b2 : 1 ≤ per ∧ per ≤ 3) (b3 : 1 ≤ sec ∧ sec ≤ 60) (hw : WF x h [] (fun _ _ => -1)) :
    ∃ h2, f_X11_plan_43 K x x_FU h (jI t) (jI s) (jI per) (jI sec) v5 (jI 0) = Option.bind (f_X3_search x h2) (fun h6 => if v5 = (-1) then some (.inr (h6.1 (x + 54) 5), h6) else Option.bind (f_X3_houseFor x h6 v5) (fun v_7 => some (.inr v_7, h6))) ∧ WF x h2 (qs_ s P) (Wl (wd x h) t per sec H (qs_ s P)) ∧ SF x h h2 := by
  have w0 := I.w0
  have w1 := I.w1
  have w2 := I.w2
  have key := x_up0 (P := fun m i => ∀ h1 : XH, SF x h h1 → WF x h1 (qs_ s i) (Wl (wd x h) t per sec H (qs_ s i)) → ∃ h2, f_X11_plan_43 K x m h1 (jI t) (jI s) (jI per) (jI sec) v5 (jI (i : Int)) = Option.bind (f_X3_search x h2) (fun h6 => if v5 = (-1) then some (.inr (h6.1 (x + 54) 5), h6) else Option.bind (f_X3_houseFor x h6 v5) (fun v_7 => some (.inr v_7, h6))) ∧ WF x h2 (qs_ s P) (Wl (wd x h) t per sec H (qs_ s P)) ∧ SF x h h2) P (by omega) (fun m h1 f1 wf => by
    have J := I.fr f1.fr
    have e4 : h1.1 (x + 9) 4 = jI (wd x h1 1) := J.2.1.1.2.1
    rw [f1.fr.ew] at e4
    refine ⟨h1, ?_, wf, f1⟩
    rw [f_X11_plan_43, e4, if_pos ((jI_le (by omega) (by omega) (by omega) (by omega)).mpr (by omega))]) (fun m i hi ih h1 f1 wf => by
    have J := I.fr f1.fr
    have ew := f1.fr.ew
    have e4 : h1.1 (x + 9) 4 = jI (wd x h1 1) := J.2.1.1.2.1
    rw [ew] at e4
    rw [f_X11_plan_43, e4, if_neg (fun q => absurd ((jI_le (by omega) (by omega) (by omega) (by omega)).mp q) (by omega)), bi_at (by omega), bi_n (by omega) (by omega)]
    have eq : qs_ s (i + 1) = if s.testBit i = true then qs_ s i ++ [i] else qs_ s i := rfl
    have mo := qs_mo (s := s) (P - (i + 1)) (i + 1)
    rw [show i + 1 + (P - (i + 1)) = P by omega] at mo
    by_cases c : s.testBit i = true
    · rw [if_pos c] at eq
      have el : (qs_ s i ++ [i]).length = (qs_ s i).length + 1 := by rw [List.length_append]; rfl
      rw [eq, el] at mo
      rw [if_pos c, if_pos rfl]
      unfold f_X3_addPack
      rw [wf.1, if_neg (show ¬ (5 : Int32) ≤ jI ((qs_ s i).length : Int) from fun q => absurd ((jI_le (a := 5) (by omega) (by omega) (by omega) (by omega)).mp q) (by omega)), if_pos (jI_b (by omega) (by omega) (by omega)), nat_ (by omega), xl_, gi_a (show x + 54 ≠ x + 55 by omega), wf.1, jI_s (qs_ s i).length, xl_, Option.bind_some]
      have f2 : SF x h1 (x_i (x_i h1 (x + 55) (qs_ s i).length (jI (i : Int))) (x + 54) 4 (jI (((qs_ s i).length + 1 : Nat) : Int))) := (SF.i (by decide)).tr (SF.i (by decide))
      have ew2 := f2.fr.ew
      rw [ew] at ew2
      have k7 := c_p77 (J.fr f2.fr) (i := i) (t := t) (H := H) (l := qs_ s i) (per := per) (sec := sec) (v2 := jI (s : Int)) (v5 := v5) (k43 := f_X11_plan_43 K x m) (by rw [ew2]; exact hH) (by rw [ew2]; omega) (by rw [ew2]; exact ht) (by omega) b2 b3 (by
        rw [ew2]
        refine ⟨?_, ?_, fun k hk => ?_, fun k d hk hd => ?_⟩
        · rw [gi_s, el]
        · rw [gi_k (by omega), gi_a (by omega)]
          exact wf.2.1
        · rw [gi_a (by omega)]
          by_cases e : k = (qs_ s i).length
          · rw [e, gi_s, gD_r]
          · rw [gi_k e, gD_l (by omega)]
            exact wf.2.2.1 k (by omega)
        · rw [gi_a (by omega), gi_a (by omega), wf.2.2.2 k d hk hd]
          dsimp only
          by_cases e : k = (qs_ s i).length
          · rw [if_pos ⟨e, by omega⟩, Wl_n (.inl (by omega))]
          · rw [if_neg (fun q => e q.1), Wl_a e])
      obtain ⟨h3, k1, k2, k3⟩ := k7
      rw [ew2] at k2
      rw [show (0 : Int32) = jI 0 from rfl, k1]
      rw [eq] at ih
      exact ih h3 (f1.tr (f2.tr k3)) k2
    · rw [if_neg c] at eq
      rw [if_neg c, if_neg (by decide)]
      unfold f_X11_plan_127
      rw [jI_s i]
      rw [eq] at ih
      exact ih h1 f1 wf)
  refine key h SF.rf ⟨hw.1, hw.2.1, hw.2.2.1, fun k d hk hd => ?_⟩
  rw [hw.2.2.2 k d hk hd, Wl_n (.inl (Nat.zero_le _))]
