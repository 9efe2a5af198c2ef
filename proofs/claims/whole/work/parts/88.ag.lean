/-! ===== when to go through again ===== -/
theorem Fr.o4 {x : Nat} {h h2 : XH} {o1 o2 o3 o4 : Nat} (f : ∀ a, a ≠ x + o1 → a ≠ x + o2 → a ≠ x + o3 → a ≠ x + o4 → h2.1 a = h.1 a) (e : h2.2 = h.2) (m1 : o1 ∈ sc_) (m2 : o2 ∈ sc_) (m3 : o3 ∈ sc_) (m4 : o4 ∈ sc_) : Fr x h h2 := by
  have q : ∀ o, o ∈ sc_ → o ≠ 1 ∧ o ≠ 64 := by decide
  have a1 := q o1 m1
  have a2 := q o2 m2
  have a3 := q o3 m3
  have a4 := q o4 m4
  have e1 : h2.1 (x + 1) = h.1 (x + 1) := f _ (by omega) (by omega) (by omega) (by omega)
  have e64 : h2.1 (x + 64) = h.1 (x + 64) := f _ (by omega) (by omega) (by omega) (by omega)
  exact ⟨fun a h1 _ _ => f a (h1 o1 m1) (h1 o2 m2) (h1 o3 m3) (h1 o4 m4), by rw [e1], by rw [e1], by rw [e64], by rw [e64], by rw [e64], by rw [e]⟩
/-- the last of the first m moments in a set, from 1 on; 0: none -/
def lst_ : Nat → Nat → Nat
  | 0, _ => 0
  | m + 1, s => if s.testBit m = true then m + 1 else lst_ m s
theorem lst_b : ∀ m s, lst_ m s ≤ m := by
  intro m s
  induction m with
  | zero => exact Nat.le_refl _
  | succ m ih =>
    unfold lst_
    split <;> omega
theorem lst_6 : ∀ m : Fin 7, ∀ s : Fin 64, s.val < 2 ^ m.val → lst_ m.val s.val = lst_ 6 s.val := by decide +kernel
theorem lst_0 : ∀ s : Fin 64, 0 < s.val → 0 < lst_ 6 s.val := by decide +kernel
theorem nlz_6 : ∀ s : Fin 64, 0 < s.val → f_J6_numberOfLeadingZeros_0f7a4 x_h0 (jI (s.val : Int)) = jI (32 - (lst_ 6 s.val : Int)) := by decide +kernel
theorem nlz_e (h : XH) {s : Nat} (h0 : 0 < s) (hs : s < 64) : f_J6_numberOfLeadingZeros_0f7a4 h (jI (s : Int)) = jI (32 - (lst_ 6 s : Int)) := nlz_6 ⟨s, hs⟩ h0
theorem pc_6 : ∀ s : Fin 64, pc8_ s.val ≤ 6 := by decide +kernel
/-- AWAITED at an end, if touched last at moment l, z times -/
def at_ (w : Nat → Int) (t p : Nat) (e : Int) (l z : Nat) : Int := swg_ w t p (w (290 + 81 * p + 4)) (w (290 + 81 * p + 5)) (w (290 + 81 * p + 6)) (w (290 + 81 * p + 7)) (w (290 + 81 * p + 8) + (z : Int)) (w (290 + 81 * p + 3)) (fun pl => if l = 0 then ag_ w p (w 6 + e) pl else (e - w (937 + l)) / 10) (w (290 + 81 * p + 2)).toNat
theorem at_b {w : Nat → Int} {t p : Nat} {e : Int} {l z : Nat} (h : w (290 + 81 * p + 2) ≤ 52) : 0 ≤ at_ w t p e l z ∧ at_ w t p e l z ≤ 5200 := by
  have b := swg_b (w := w) (t := t) (p := p) (hs := w (290 + 81 * p + 4)) (dr := w (290 + 81 * p + 5)) (per := w (290 + 81 * p + 6)) (sec := w (290 + 81 * p + 7)) (gone := w (290 + 81 * p + 8) + (z : Int)) (ah := w (290 + 81 * p + 3)) (age := fun pl => if l = 0 then ag_ w p (w 6 + e) pl else (e - w (937 + l)) / 10) (n := (w (290 + 81 * p + 2)).toNat)
  unfold at_
  omega
def sT_ (w : Nat → Int) (t p : Nat) (e : Int) (s : Nat) : Int := at_ w t p e (lst_ (w 4).toNat s) (pc8_ s)
/-- what is known so far -/
def CA (w : Nat → Int) (t p : Nat) (e : Int) (x : Nat) (h : XH) : Prop := ∀ l z : Nat, l ≤ 6 → z ≤ 6 → h.1 (x + 48) (7 * l + z) = jI (-1) ∨ h.1 (x + 48) (7 * l + z) = jI (at_ w t p e l z)
theorem cp_PT {a v : Nat} {h : XH} {hs dr per sec gone t q od : Int} (hv : v ≠ a) (P : PT h v hs dr per sec gone t q od) : PT (f_X4_copyFrom a h v) a hs dr per sec gone t q od ∧ (∀ b, b ≠ a → (f_X4_copyFrom a h v).1 b = h.1 b) ∧ (f_X4_copyFrom a h v).2 = h.2 := by
  obtain ⟨p0, p1, p2, p3, p4, p5, p6, p7⟩ := P
  have e : f_X4_copyFrom a h v = x_i (x_i (x_i (x_i (x_i (x_i (x_i (x_i h a 0 (jI hs)) a 1 (jI dr)) a 2 (jI per)) a 3 (jI sec)) a 4 (jI gone)) a 5 (jI t)) a 6 (jI q)) a 7 (jI od) := by
    unfold f_X4_copyFrom
    simp only [xl_, gi_n hv, p0, p1, p2, p3, p4, p5, p6, p7]
  rw [e]
  refine ⟨?_, fun b hb => by simp only [gi_n hb], rfl⟩
  unfold PT
  refine ⟨?_, ?_, ?_, ?_, ?_, ?_, ?_, ?_⟩ <;> simp [gi_]
theorem PT.g {a : Nat} {h : XH} {hs dr per sec gone t q od gone' : Int} (P : PT h a hs dr per sec gone t q od) : PT (x_i h a 4 (jI gone')) a hs dr per sec gone' t q od := by
  obtain ⟨p0, p1, p2, p3, p4, p5, p6, p7⟩ := P
  unfold PT
  refine ⟨?_, ?_, ?_, ?_, ?_, ?_, ?_, ?_⟩ <;> simp [gi_] <;> assumption
theorem PT.t {a : Nat} {h : XH} {hs dr per sec gone t q od t' q' : Int} (P : PT h a hs dr per sec gone t q od) : PT (f_X4_touchFrom a h (jI t') (jI q')) a hs dr per sec gone t' q' od := by
  obtain ⟨p0, p1, p2, p3, p4, p5, p6, p7⟩ := P
  unfold PT f_X4_touchFrom
  simp only [xl_]
  refine ⟨?_, ?_, ?_, ?_, ?_, ?_, ?_, ?_⟩ <;> simp [gi_] <;> assumption
theorem Inv.w4 {gh : Nat} {x : Nat} {K : XK} {h : XH} (I : Inv gh x K h) : 0 ≤ wd x h 4 ∧ wd x h 4 ≤ 6 := ⟨I.1.1.2.2.2.2.2.2.2.2.1, I.1.1.2.2.2.2.2.2.2.2.2.1⟩
theorem WM.up {w : Nat → Int} (M : WM w) {k m : Nat} (hm : (m : Int) < w 4) (hk : k ≤ m) : w (938 + k) ≤ w (938 + m) := by
  induction m with
  | zero =>
    rw [show k = 0 by omega]
    exact Int.le_refl _
  | succ m ih =>
    by_cases c : k = m + 1
    · rw [c]
      exact Int.le_refl _
    · have a := ih (by omega) (by omega)
      have b := M.2 m (by omega)
      rw [show 939 + m = 938 + (m + 1) by omega] at b
      omega
theorem c_s138 {gh : Nat} {x : Nat} {K : XK} {h h1 : XH} (I : Inv gh x K h) {p t r : Nat} (hp : (p : Int) < wd x h 1) (hq : 0 < wd x h (290 + 81 * p + 3)) (c : CTx x K h r (wd x h) (970 + 851 * t) false) (hx : WTx (wd x h) (970 + 851 * t) false) {e : Int} (he : 0 ≤ e ∧ e ≤ 99999) {l z : Nat} (hl : (l : Int) ≤ wd x h 4) (hz : z ≤ 6) (hm : 0 < l → wd x h (937 + l) ≤ e) (f1 : ∀ a, a ≠ x + 44 → a ≠ x + 45 → a ≠ x + 47 → a ≠ x + 48 → h1.1 a = h.1 a) (f2 : h1.2 = h.2) (ca : CA (wd x h) t p e x h1) {tm q : Int}
    (hP : PT h1 (x + 47) (wd x h (290 + 81 * p + 4)) (wd x h (290 + 81 * p + 5)) (wd x h (290 + 81 * p + 6)) (wd x h (290 + 81 * p + 7)) (wd x h (290 + 81 * p + 8) + (z : Int)) tm q (wd x h (290 + 81 * p + 3) - 1))
    (ha : ∀ pl, 0 ≤ pl → pl < pl_ (wd x h (290 + 81 * p + 2)) (wd x h (290 + 81 * p + 6)) → 0 ≤ wd x h 6 + e - tm - pl * q ∧ wd x h 6 + e - tm - pl * q ≤ 1199999 ∧ (wd x h 6 + e - tm - pl * q) / 10 = if l = 0 then ag_ (wd x h) p (wd x h 6 + e) pl else (e - wd x h (937 + l)) / 10) :
    ∃ h2, f_X5_sumTouched_138 K x h1 (some r) (jI p) (jI e) (jI (7 * (l : Int) + z)) = some (jI (at_ (wd x h) t p e l z), h2) ∧ (∀ a, a ≠ x + 44 → a ≠ x + 45 → a ≠ x + 47 → a ≠ x + 48 → h2.1 a = h.1 a) ∧ h2.2 = h.2 ∧ CA (wd x h) t p e x h2 := by
  have w1 := I.w1
  have w4 := I.w4
  have w6 := I.w6
  have gn := I.gn hp
  have cr := c.1
  obtain ⟨tm', q', P1, P2, P3, P4, P5, P6, P7⟩ := I.put hp hq
  obtain ⟨-, -, -, b6, b7, -⟩ := id P2
  obtain ⟨-, -, -, -, -, -, p7, p8, -⟩ := I.wp hp
  have F : Fr x h h1 := Fr.o4 f1 f2 (by decide) (by decide) (by decide) (by decide)
  have ew := F.ew
  have c' : CTx x K h1 r (wd x h) (970 + 851 * t) false := c.c ⟨hx.1, hx.2.1⟩ (fun _ _ _ => rfl) (fun a q1 _ => f1 a (by omega) (by omega) (by omega) (by omega)) (fun _ _ _ => rfl)
  have e7 : h1.1 (x + 9) 7 = jI (wd x h 6) := by
    rw [f1 _ (by omega) (by omega) (by omega) (by omega)]
    exact I.2.1.1.2.2.2.1
  have s := c_sum (I.fr F) (p := p) (t := t) (r := r) (by rw [ew]; exact hp) (by rw [ew]; exact c') (by rw [ew]; exact hx) (v := x + 47) (ck := wd x h 6 + e) (by omega) (by omega) hP (by rw [ew]; exact P2) P3 (by omega) (fun pl q1 q2 => by rw [ew] at q2; have := ha pl q1 q2; omega)
  rw [ew] at s
  obtain ⟨h2, s1, s2, s3⟩ := s
  have ea := swg_c (w := wd x h) (t := t) (p := p) (n := (wd x h (290 + 81 * p + 2)).toNat) (hs := wd x h (290 + 81 * p + 4)) (dr := wd x h (290 + 81 * p + 5)) (sec := wd x h (290 + 81 * p + 7)) (gone := wd x h (290 + 81 * p + 8) + (z : Int)) (ah := wd x h (290 + 81 * p + 3)) (N := wd x h (290 + 81 * p + 2)) (age := fun pl => (wd x h 6 + e - tm - pl * q) / 10) (age' := fun pl => if l = 0 then ag_ (wd x h) p (wd x h 6 + e) pl else (e - wd x h (937 + l)) / 10) b6 b7 (by omega) (fun pl q1 q2 => (ha pl q1 q2).2.2)
  rw [Int.sub_add_cancel, ea] at s1
  refine ⟨x_i h2 (x + 48) (7 * l + z) (jI (at_ (wd x h) t p e l z)), ?_, fun a n1 n2 n3 n4 => by rw [gi_n n4, s2 a n1 n2]; exact f1 a n1 n2 n3 n4, by show h2.2 = h.2; rw [s3, f2], fun l' z' hl' hz' => ?_⟩
  · unfold f_X5_sumTouched_138 f_X5_sumTouched_165
    rw [e7, jI_add, s1, Option.bind_some, if_pos (jI_b (by omega) (by omega) (by omega)), xl_, jI_nat (by omega) (by omega), if_pos (jI_b (by omega) (by omega) (by omega)), show (7 * (l : Int) + (z : Int)).toNat = 7 * l + z by omega, gi_s]
    rfl
  · rw [gi_]
    by_cases d : 7 * l' + z' = 7 * l + z
    · rw [if_pos ⟨rfl, d⟩, show l' = l by omega, show z' = z by omega]
      exact Or.inr rfl
    · rw [if_neg (fun q => d q.2), s2 _ (by omega) (by omega)]
      exact ca l' z' hl' hz'
theorem c_sTo {gh : Nat} {x : Nat} {K : XK} {h h1 : XH} (I : Inv gh x K h) {p t r : Nat} (hp : (p : Int) < wd x h 1) (hq : 0 < wd x h (290 + 81 * p + 3)) (c : CTx x K h r (wd x h) (970 + 851 * t) false) (hx : WTx (wd x h) (970 + 851 * t) false) {e : Int} (he : 0 ≤ e ∧ e ≤ 99999) (hm : ∀ k : Nat, (k : Int) < wd x h 4 → wd x h (938 + k) ≤ e) {s : Nat} (hs : s < 64) (f1 : ∀ a, a ≠ x + 44 → a ≠ x + 45 → a ≠ x + 47 → a ≠ x + 48 → h1.1 a = h.1 a) (f2 : h1.2 = h.2) (ca : CA (wd x h) t p e x h1) :
    ∃ h2, f_X5_sumTouched K x h1 (some r) (jI p) (jI s) (jI e) = some (jI (sT_ (wd x h) t p e s), h2) ∧ (∀ a, a ≠ x + 44 → a ≠ x + 45 → a ≠ x + 47 → a ≠ x + 48 → h2.1 a = h.1 a) ∧ h2.2 = h.2 ∧ CA (wd x h) t p e x h2 := by
  have w1 := I.w1
  have w4 := I.w4
  have w6 := I.w6
  have gn := I.gn hp
  obtain ⟨-, -, -, -, -, -, p7, p8, -⟩ := I.wp hp
  have e12 : h1.1 (x + 9) 12 = jI (wd x h 4) := by
    rw [f1 _ (by omega) (by omega) (by omega) (by omega)]
    exact I.2.1.1.2.2.2.2.2.2.1
  have zb := pc_6 ⟨s, hs⟩
  have zb' : pc8_ s ≤ 6 := zb
  have key := x_up0 (P := fun m n => ∃ h2, f_X5_sumTouched_6 K x m h1 (some r) (jI p) (jI s) (jI e) (jI (lst_ n s : Int)) (jI (n : Int)) = some (jI (sT_ (wd x h) t p e s), h2) ∧ (∀ a, a ≠ x + 44 → a ≠ x + 45 → a ≠ x + 47 → a ≠ x + 48 → h2.1 a = h.1 a) ∧ h2.2 = h.2 ∧ CA (wd x h) t p e x h2) (wd x h 4).toNat (by omega) (fun m => by
    have lb := lst_b (wd x h 4).toNat s
    unfold sT_
    generalize lst_ (wd x h 4).toNat s = l at lb
    generalize hz : pc8_ s = z at zb'
    have idx : jI (l : Int) * 7 + jI (z : Int) = jI (7 * (l : Int) + z) := by
      rw [show (7 : Int32) = jI 7 from rfl, jI_mul, jI_add, Int.mul_comm]
    rw [f_X5_sumTouched_6, e12, if_pos ((jI_le (by omega) (by omega) (by omega) (by omega)).mpr (by omega)), xl_, bc_e h1 (by omega), hz, idx, if_pos (jI_b (by omega) (by omega) (by omega)), jI_nat (by omega) (by omega), show (7 * (l : Int) + (z : Int)).toNat = 7 * l + z by omega]
    have ab := at_b (w := wd x h) (t := t) (p := p) (e := e) (l := l) (z := z) p8
    have hit : h1.1 (x + 48) (7 * l + z) = jI (at_ (wd x h) t p e l z) → ∃ h2, (if h1.1 (x + 48) (7 * l + z) = (-1) then (if x_b (jI (p : Int)) 8 = true then x_let (f_X4_copyFrom (x + 47) h1 (((x + 13) + 6 + 3 * (jI (p : Int)).toNatClampNeg) + 1)) (fun h5 => x_let (x_i h5 (x + 47) 4 ((h5.1 (x + 47) 4) + jI (z : Int))) (fun h6 => if jI (l : Int) ≤ 0 then f_X5_sumTouched_138 K x h6 (some r) (jI p) (jI e) (jI (7 * (l : Int) + z)) else if x_b (jI (l : Int) - 1) 6 = true then x_let (f_X4_touchFrom (x + 47) h6 ((h6.1 (x + 9) 7) + (h6.1 (x + 16) (jI (l : Int) - 1).toNatClampNeg)) 0) (fun h11 => f_X5_sumTouched_138 K x h11 (some r) (jI p) (jI e) (jI (7 * (l : Int) + z))) else none)) else none) else f_X5_sumTouched_165 K x h1 (jI (7 * (l : Int) + z))) = some (jI (at_ (wd x h) t p e l z), h2) ∧ (∀ a, a ≠ x + 44 → a ≠ x + 45 → a ≠ x + 47 → a ≠ x + 48 → h2.1 a = h.1 a) ∧ h2.2 = h.2 ∧ CA (wd x h) t p e x h2 := fun eh => by
      refine ⟨h1, ?_, f1, f2, ca⟩
      rw [eh, if_neg (fun q => absurd ((jm1 (by omega) (by omega)).mp q) (by omega))]
      unfold f_X5_sumTouched_165
      rw [if_pos (jI_b (by omega) (by omega) (by omega)), jI_nat (by omega) (by omega), show (7 * (l : Int) + (z : Int)).toNat = 7 * l + z by omega, eh]
    rcases ca l z (by omega) zb' with ce | ce
    · obtain ⟨tm, q, P1, P2, P3, P4, P5, P6, P7⟩ := I.put hp hq
      have P1' : PT h1 (x + 13 + 6 + 3 * p + 1) (wd x h (290 + 81 * p + 4)) (wd x h (290 + 81 * p + 5)) (wd x h (290 + 81 * p + 6)) (wd x h (290 + 81 * p + 7)) (wd x h (290 + 81 * p + 8)) tm q (wd x h (290 + 81 * p + 3) - 1) := by
        unfold PT
        rw [f1 _ (by omega) (by omega) (by omega) (by omega)]
        exact P1
      obtain ⟨c1, c2, c3⟩ := cp_PT (a := x + 47) (v := x + 13 + 6 + 3 * p + 1) (by omega) P1'
      generalize hH5 : f_X4_copyFrom (x + 47) h1 (x + 13 + 6 + 3 * p + 1) = H5 at c1 c2 c3
      have c4 : PT (x_i H5 (x + 47) 4 (jI (wd x h (290 + 81 * p + 8) + (z : Int)))) (x + 47) (wd x h (290 + 81 * p + 4)) (wd x h (290 + 81 * p + 5)) (wd x h (290 + 81 * p + 6)) (wd x h (290 + 81 * p + 7)) (wd x h (290 + 81 * p + 8) + (z : Int)) tm q (wd x h (290 + 81 * p + 3) - 1) := c1.g
      rw [ce, if_pos (show jI (-1) = (-1 : Int32) from m1_.symm), if_pos (jI_b (by omega) (by omega) (by omega)), nat_ (by omega), xl_, xl_, hH5, c1.2.2.2.2.1, jI_add]
      generalize hH6 : x_i H5 (x + 47) 4 (jI (wd x h (290 + 81 * p + 8) + (z : Int))) = H6 at c4
      have g6 : ∀ a, a ≠ x + 47 → H6.1 a = h1.1 a := fun a n => by rw [← hH6, gi_n n, c2 a n]
      have g62 : H6.2 = h1.2 := by rw [← hH6]; exact c3
      have ca6 : CA (wd x h) t p e x H6 := fun l' z' q1 q2 => by rw [g6 _ (by omega)]; exact ca l' z' q1 q2
      by_cases cl : l = 0
      · rw [if_pos (show jI (l : Int) ≤ (0 : Int32) from (jI_le (b := 0) (by omega) (by omega) (by omega) (by omega)).mpr (by omega))]
        exact c_s138 I hp hq c hx he (by omega) zb' (fun q => absurd q (by omega)) (fun a n1 n2 n3 n4 => by rw [g6 a n3]; exact f1 a n1 n2 n3 n4) (by rw [g62, f2]) ca6 c4 (fun pl q1 q2 => by
          have Pi := P7 pl q1 q2
          rw [if_pos cl]
          unfold ag_
          rw [Pi.1, show wd x h 6 + e - tm - pl * q = wd x h 6 + e - (tm + pl * q) by omega]
          refine ⟨by omega, by omega, rfl⟩)
      · have hk := hm (l - 1) (by omega)
        rw [show 938 + (l - 1) = 937 + l by omega] at hk
        have mk := I.1.2.2.2.2.2.1.1 (l - 1) (by omega)
        rw [show 938 + (l - 1) = 937 + l by omega] at mk
        have e16 : H6.1 (x + 16) (l - 1) = jI (wd x h (937 + l)) := by
          rw [g6 _ (by omega), f1 _ (by omega) (by omega) (by omega) (by omega)]
          have := I.2.1.2.2.2.2.1 (l - 1) (by omega)
          rw [show 938 + (l - 1) = 937 + l by omega] at this
          exact this
        have e7 : H6.1 (x + 9) 7 = jI (wd x h 6) := by
          rw [g6 _ (by omega), f1 _ (by omega) (by omega) (by omega) (by omega)]
          exact I.2.1.1.2.2.2.1
        rw [if_neg (show ¬ jI (l : Int) ≤ (0 : Int32) from fun q => absurd ((jI_le (b := 0) (by omega) (by omega) (by omega) (by omega)).mp q) (by omega)), show (1 : Int32) = jI 1 from rfl, jI_sub, if_pos (jI_b (by omega) (by omega) (by omega)), xl_, jI_nat (by omega) (by omega), show ((l : Int) - 1).toNat = l - 1 by omega, e16, e7, jI_add, show (0 : Int32) = jI 0 from rfl]
        have c5 : PT (f_X4_touchFrom (x + 47) H6 (jI (wd x h 6 + wd x h (937 + l))) (jI 0)) (x + 47) (wd x h (290 + 81 * p + 4)) (wd x h (290 + 81 * p + 5)) (wd x h (290 + 81 * p + 6)) (wd x h (290 + 81 * p + 7)) (wd x h (290 + 81 * p + 8) + (z : Int)) (wd x h 6 + wd x h (937 + l)) 0 (wd x h (290 + 81 * p + 3) - 1) := c4.t
        have g7 : ∀ a, a ≠ x + 47 → (f_X4_touchFrom (x + 47) H6 (jI (wd x h 6 + wd x h (937 + l))) (jI 0)).1 a = h1.1 a := fun a n => by
          unfold f_X4_touchFrom
          rw [xl_, xl_, gi_n n, gi_n n, g6 a n]
        exact c_s138 I hp hq c hx he (by omega) zb' (fun _ => hk) (fun a n1 n2 n3 n4 => by rw [g7 a n3]; exact f1 a n1 n2 n3 n4) (by show H6.2 = _; rw [g62, f2]) (fun l' z' q1 q2 => by rw [g7 _ (by omega)]; exact ca l' z' q1 q2) c5 (fun pl q1 q2 => by
          rw [if_neg cl, Int.mul_zero]
          refine ⟨by omega, by omega, by rw [show wd x h 6 + e - (wd x h 6 + wd x h (937 + l)) - 0 = e - wd x h (937 + l) by omega]⟩)
    · exact hit ce) (fun m n hn ih => by
    obtain ⟨h2, k1, k2, k3, k4⟩ := ih
    refine ⟨h2, ?_, k2, k3, k4⟩
    have lb := lst_b n s
    rw [f_X5_sumTouched_6, e12, if_neg (fun q => absurd ((jI_le (by omega) (by omega) (by omega) (by omega)).mp q) (by omega)), xl_, bi_at (by omega), bi_n (by omega) (by omega), jI_s]
    rw [← k1]
    conv => rhs; unfold lst_
    by_cases d : s.testBit n = true
    · rw [if_pos d, if_pos rfl, if_pos d]
    · rw [if_neg d, if_neg (by decide), if_neg d])
  exact key
