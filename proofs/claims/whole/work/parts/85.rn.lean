/-! ===== saying by draws ===== -/
def nx_ (s : Int32) : Int32 := 1103515245 * s + 12345
def dw_ (s : Int32) : Int32 := x_ushr s 16 &&& 32767
theorem dw_e (s : Int32) : x_shr s 16 &&& 32767 = dw_ s := by
  unfold dw_
  rw [← Int32.toBitVec_inj]
  have e1 : (x_shr s 16 &&& 32767).toBitVec = s.toBitVec.sshiftRight 16 &&& 32767#32 := rfl
  have e2 : (x_ushr s 16 &&& 32767).toBitVec = s.toBitVec >>> 16 &&& 32767#32 := rfl
  rw [e1, e2]
  refine BitVec.eq_of_getLsbD_eq fun i hi => ?_
  rw [BitVec.getLsbD_and, BitVec.getLsbD_and, BitVec.getLsbD_sshiftRight, BitVec.getLsbD_ushiftRight]
  have m : ∀ i : Fin 32, 16 ≤ i.val → (32767#32).getLsbD i.val = false := by decide
  by_cases c : 16 + i < 32
  · rw [if_pos c]
    have : ¬ 32 ≤ i := by omega
    simp [this]
  · rw [m ⟨i, hi⟩ (by show 16 ≤ i; omega), Bool.and_false, Bool.and_false]
def dz_ (s : Int32) : Int := (dw_ s).toInt
theorem dz_j (s : Int32) : dw_ s = jI (dz_ s) := jI_of _
theorem dz_b (s : Int32) : 0 ≤ dz_ s ∧ dz_ s < 32768 := by
  obtain ⟨j, h1, h2⟩ := pk_andE (x_ushr s 16) (m := 32767) 15 (by decide)
  have e : dw_ s = nI j := h2
  unfold dz_
  rw [e, nI_toInt (by omega)]
  omega
def r1_ (w : Nat → Int) (t p i : Nat) (s : Int32) : Int × Int32 := if hn_ w t p (w 6) i ≤ dz_ (nx_ s) % 100 then (dr_ (sl_ w p i) 4 2 (dz_ (nx_ (nx_ s)) % wA_ (sl_ w p i) 5), nx_ (nx_ s)) else (cd_ w p i, nx_ s)
/-- the heaps with both sides told, one card after the other, and the seed -/
def gs_ (x : Nat) (t p : Nat) (h : XH) (s : Int32) : Nat → XH × Int32
  | 0 => (h, s)
  | i + 1 => (sa_ x (gs_ x t p h s i).1 p i (r1_ (wd x (gs_ x t p h s i).1) t p i (gs_ x t p h s i).2).1, (r1_ (wd x (gs_ x t p h s i).1) t p i (gs_ x t p h s i).2).2)
theorem r1_b {gh : Nat} {x : Nat} {K : XK} {h : XH} (I : Inv gh x K h) {t p i : Nat} {s : Int32} : -1 ≤ (r1_ (wd x h) t p i s).1 ∧ (r1_ (wd x h) t p i s).1 < 52 := by
  unfold r1_
  split
  · exact dr_b (fun k _ _ => sl_b I) 4 2 _ (by omega) (by omega)
  · have := cd_b (wd x h) p i
    show -1 ≤ cd_ (wd x h) p i ∧ cd_ (wd x h) p i < 52
    omega
/-- of a heap in that row: what it keeps of the first one -/
def GK (gh x : Nat) (K : XK) (h g : XH) (p : Nat) : Prop := Inv gh x K g ∧ (∀ k, k < 290 + 81 * p + 29 ∨ 371 + 81 * p ≤ k → wd x g k = wd x h k) ∧ g.2 = h.2 ∧ ∀ a, a ≠ x + 13 + 6 + 3 * p + 2 → a ≠ x + 65 → g.1 a = h.1 a
theorem gs_k {gh : Nat} {x : Nat} {K : XK} {h : XH} (I : Inv gh x K h) {t p : Nat} (hp : (p : Int) < wd x h 1) {s : Int32} : ∀ n : Nat, n ≤ 52 → GK gh x K h (gs_ x t p h s n).1 p := by
  intro n
  induction n with
  | zero => intro _; exact ⟨I, fun _ _ => rfl, rfl, fun _ _ _ => rfl⟩
  | succ n ih =>
    intro hn
    obtain ⟨i1, i2, i3, i4⟩ := ih (by omega)
    have w1 := I.w1
    have rb := r1_b i1 (t := t) (p := p) (i := n) (s := (gs_ x t p h s n).2)
    have S := i1.sa (p := p) (i := n) (by rw [i2 1 (by omega)]; exact hp) (by omega) rb
    have hw := sa_w (x := x) (h := (gs_ x t p h s n).1) (p := p) (i := n) (by omega) rb
    refine ⟨S, fun k hk => ?_, i3, fun a n1 n2 => ?_⟩
    · show wd x (sa_ x _ p n _) k = _
      rw [hw, us_o (by omega)]
      exact i2 k hk
    · show (sa_ x _ p n _).1 a = _
      unfold sa_
      rw [gi_n n2, gi_n n1]
      exact i4 a n1 n2
theorem Cv.law {gh : Nat} {x : Nat} {K : XK} {h : XH} {w : Nat → Int} (I : Cv gh x K h w) {t : Nat} (ht : (t : Int) < w 2) : ∃ r, h.2.2 (x + 14) t = some r ∧ CTx x K h r w (970 + 851 * t) false := I.2.1.2.2.2.2.2.2.2.1 t ht
def Ag (x : Nat) (g h : XH) : Prop := (∀ a, a ≠ x + 44 → a ≠ x + 45 → a ≠ x + 50 → a ≠ x + 65 → h.1 a = g.1 a) ∧ h.2 = g.2
theorem c_run {gh : Nat} {x : Nat} {K : XK} {h : XH} (I : Inv gh x K h) {p t : Nat} (hp : (p : Int) < wd x h 1) (hq : 0 < wd x h (290 + 81 * p + 3)) (ht : (t : Int) < wd x h 2) {s : Int32} :
    ∃ h2, f_X11_run_27 K x x_FU h (jI t) (jI p) (x + 13 + 6 + 3 * p) s (jI 0) = some (.inr (jI (kn_ (wd x (gs_ x t p h s (wd x h (290 + 81 * p + 2)).toNat).1) p 0 (wd x h (290 + 81 * p + 2)).toNat)), h2) ∧ Ag x (gs_ x t p h s (wd x h (290 + 81 * p + 2)).toNat).1 h2 ∧ h2.1 (x + 65) = h.1 (x + 65) := by
  have w1 := I.w1
  have w2 := I.w2
  obtain ⟨-, -, -, -, -, -, p7, p8, -⟩ := I.wp hp
  have key := x_up0 (P := fun m n => ∀ h1 : XH, Ag x (gs_ x t p h s n).1 h1 → h1.1 (x + 65) = h.1 (x + 65) → ∃ h2, f_X11_run_27 K x m h1 (jI t) (jI p) (x + 13 + 6 + 3 * p) (gs_ x t p h s n).2 (jI (n : Int)) = some (.inr (jI (kn_ (wd x (gs_ x t p h s (wd x h (290 + 81 * p + 2)).toNat).1) p 0 (wd x h (290 + 81 * p + 2)).toNat)), h2) ∧ Ag x (gs_ x t p h s (wd x h (290 + 81 * p + 2)).toNat).1 h2 ∧ h2.1 (x + 65) = h.1 (x + 65)) (wd x h (290 + 81 * p + 2)).toNat (by omega) (fun m h1 ag e65 => by
    obtain ⟨g1, g2, g3, g4⟩ := gs_k I (t := t) hp (s := s) (wd x h (290 + 81 * p + 2)).toNat (by omega)
    have cv := g1.cv.ag ag.1 ag.2
    have c2 := (cv.pk (q := p) (by rw [g2 1 (by omega)]; exact hp)).2.2.1
    rw [g2 _ (by omega)] at c2
    have rg := vc_rgt cv (p := p) (by rw [g2 1 (by omega)]; exact hp)
    rw [g2 (290 + 81 * p + 2) (by omega)] at rg
    refine ⟨h1, ?_, ag, e65⟩
    unfold f_X11_run_27
    rw [c2, if_pos ((jI_le (by omega) (by omega) (by omega) (by omega)).mpr (by omega)), rg, Option.bind_some]) (fun m n hn ih h1 ag e65 => by
    obtain ⟨g1, g2, g3, g4⟩ := gs_k I (t := t) hp (s := s) n (by omega)
    have cv := g1.cv.ag ag.1 ag.2
    have c2 := (cv.pk (q := p) (by rw [g2 1 (by omega)]; exact hp)).2.2.1
    rw [g2 _ (by omega)] at c2
    obtain ⟨r, hr, ct⟩ := cv.law (t := t) (by rw [g2 2 (by omega)]; exact ht)
    have hx := g1.wl (t := t) (by rw [g2 2 (by omega)]; exact ht)
    obtain ⟨h3, k1, k2, k3⟩ := vc_now cv (p := p) (t := t) (r := r) (i := (n : Int)) (by rw [g2 1 (by omega)]; exact hp) (by rw [g2 _ (by omega)]; exact hq) ct hx (by rw [g2 _ (by omega)]; omega)
    have F3 : Fr x h1 h3 := Fr.o2 k2 k3 (by decide) (by decide)
    have cv3 := cv.fr F3
    have hb := hn_b (w := wd x (gs_ x t p h s n).1) (t := t) (p := p) (ck := wd x (gs_ x t p h s n).1 6) (i := (n : Int))
    have db := dz_b (nx_ (gs_ x t p h s n).2)
    have db2 := dz_b (nx_ (nx_ (gs_ x t p h s n).2))
    have er : x_rem (f_X11_drawOf h1 (f_X11_nextSeed h1 (gs_ x t p h s n).2)) 100 = jI (dz_ (nx_ (gs_ x t p h s n).2) % 100) := by
      show x_rem (dw_ (nx_ (gs_ x t p h s n).2)) (jI 100) = _
      rw [dz_j, jI_rem (by omega) (by omega) (by omega) (by omega)]
    -- the said cell is written: the next heap
    have nxt : ∀ (h5 : XH) (c : Int), Ag x h1 h5 → h5.1 (x + 65) = h.1 (x + 65) → (r1_ (wd x (gs_ x t p h s n).1) t p n (gs_ x t p h s n).2).1 = c → Ag x (gs_ x t p h s (n + 1)).1 (x_i h5 (x + 13 + 6 + 3 * p + 2) n (jI c)) ∧ (x_i h5 (x + 13 + 6 + 3 * p + 2) n (jI c)).1 (x + 65) = h.1 (x + 65) := fun h5 c a5 r5 ec => by
      refine ⟨⟨fun a n1 n2 n3 n4 => ?_, ?_⟩, by rw [gi_n (by omega)]; exact r5⟩
      · show _ = (sa_ x _ p n _).1 a
        rw [ec]
        unfold sa_
        rw [gi_n n4]
        funext j
        rw [gi_, gi_, a5.1 a n1 n2 n3 n4, ag.1 a n1 n2 n3 n4]
      · show h5.2 = (gs_ x t p h s n).1.2
        rw [a5.2, ag.2]
    have st : f_X11_run_27 K x (m + 1) h1 (jI t) (jI p) (x + 13 + 6 + 3 * p) (gs_ x t p h s n).2 (jI (n : Int)) = if jI (hn_ (wd x (gs_ x t p h s n).1) t p (wd x (gs_ x t p h s n).1 6) n) ≤ jI (dz_ (nx_ (gs_ x t p h s n).2) % 100) then Option.bind (f_X6_drawn x h3 (jI p) (jI n) (jI (dz_ (nx_ (nx_ (gs_ x t p h s n).2))))) (fun q8 => f_X11_run_27 K x m (x_i q8.2 (x + 13 + 6 + 3 * p + 2) n q8.1) (jI t) (jI p) (x + 13 + 6 + 3 * p) (nx_ (nx_ (gs_ x t p h s n).2)) (jI ((n + 1 : Nat) : Int))) else f_X11_run_27 K x m (x_i h3 (x + 13 + 6 + 3 * p + 2) n (f_X2_cardAt (x + 13 + 6 + 3 * p) h3 (jI n))) (jI t) (jI p) (x + 13 + 6 + 3 * p) (nx_ (gs_ x t p h s n).2) (jI ((n + 1 : Nat) : Int)) := by
      rw [f_X11_run_27, c2, if_neg (fun q => absurd ((jI_le (by omega) (by omega) (by omega) (by omega)).mp q) (by omega)), if_pos (jI_b (by omega) (by omega) (by omega)), nat_ (by omega), hr, k1, Option.bind_some, er, xl_, if_pos (jI_b (by omega) (by omega) (by omega))]
      unfold f_X11_run_122
      rw [jI_s, nat_ (by omega), show f_X11_drawOf h3 (f_X11_nextSeed h3 (f_X11_nextSeed h1 (gs_ x t p h s n).2)) = jI (dz_ (nx_ (nx_ (gs_ x t p h s n).2))) from dz_j _]
      simp only [show x_b (jI (n : Int)) 52 = true from jI_b (by omega) (by omega) (by omega), if_true]
      rfl
    have m0 : 0 ≤ dz_ (nx_ (gs_ x t p h s n).2) % 100 := Int.emod_nonneg _ (by omega)
    have m1 : dz_ (nx_ (gs_ x t p h s n).2) % 100 < 100 := Int.emod_lt_of_pos _ (by omega)
    rw [st]
    have a3 : Ag x h1 h3 := ⟨fun a n1 n2 _ _ => k2 a n1 n2, k3⟩
    have e3 : h3.1 (x + 65) = h.1 (x + 65) := by rw [k2 _ (by omega) (by omega)]; exact e65
    by_cases c : hn_ (wd x (gs_ x t p h s n).1) t p (wd x (gs_ x t p h s n).1 6) n ≤ dz_ (nx_ (gs_ x t p h s n).2) % 100
    · rw [if_pos ((jI_le (by omega) (by omega) (by omega) (by omega)).mpr c)]
      obtain ⟨h4, d1, d2, d3⟩ := c_drw cv3 (p := p) (i := (n : Int)) (d := dz_ (nx_ (nx_ (gs_ x t p h s n).2))) (by rw [g2 1 (by omega)]; exact hp) (by rw [g2 _ (by omega)]; exact hq) (by rw [g2 _ (by omega)]; omega) (by omega)
      rw [d1, Option.bind_some]
      have er1 : r1_ (wd x (gs_ x t p h s n).1) t p n (gs_ x t p h s n).2 = (dr_ (sl_ (wd x (gs_ x t p h s n).1) p n) 4 2 (dz_ (nx_ (nx_ (gs_ x t p h s n).2)) % wA_ (sl_ (wd x (gs_ x t p h s n).1) p n) 5), nx_ (nx_ (gs_ x t p h s n).2)) := if_pos c
      have nn := nxt h4 _ ⟨fun a n1 n2 n3 n4 => by rw [d2 a n3]; exact a3.1 a n1 n2 n3 n4, by rw [d3]; exact a3.2⟩ (by rw [d2 _ (by omega)]; exact e3) (by rw [er1])
      have fin := ih _ nn.1 nn.2
      rw [show (gs_ x t p h s (n + 1)).2 = nx_ (nx_ (gs_ x t p h s n).2) by show (r1_ _ t p n _).2 = _; rw [er1]] at fin
      exact fin
    · rw [if_neg (fun q => c ((jI_le (by omega) (by omega) (by omega) (by omega)).mp q))]
      have cc := vc_card cv3 (p := p) (i := (n : Int)) (by rw [g2 1 (by omega)]; exact hp) (by omega)
      rw [cc]
      have er1 : r1_ (wd x (gs_ x t p h s n).1) t p n (gs_ x t p h s n).2 = (cd_ (wd x (gs_ x t p h s n).1) p n, nx_ (gs_ x t p h s n).2) := if_neg c
      have nn := nxt h3 _ a3 e3 (by rw [er1])
      have fin := ih _ nn.1 nn.2
      rw [show (gs_ x t p h s (n + 1)).2 = nx_ (gs_ x t p h s n).2 by show (r1_ _ t p n _).2 = _; rw [er1]] at fin
      exact fin)
  exact key h ⟨fun _ _ _ _ _ => rfl, rfl⟩ rfl
/-! the reference -/
theorem r_r137 {gh : Nat} {x : Nat} {K : XK} {h : XH} (I : Rv gh x K h) {k65 : XH → Int32 → Int32 → Int32 → Option (Int32 × XH)} {v1 : Int32} {p : Nat} (hp : (p : Int) < wd x h 1) (hq : 0 < wd x h (290 + 81 * p + 3)) {i : Int} (hi : 0 ≤ i ∧ i < wd x h (290 + 81 * p + 2)) {r : Int} (hr : 0 ≤ r ∧ r ≤ 15) :
    f_X12_run_137 k65 x x_FU h v1 (jI p) (jI i) (jI r) (jI (-1)) (jI 0) (jI 2) = f_X12_run_203 k65 x h v1 (jI p) (jI i) (jI (dr_ (sl_ (wd x h) p i) 4 2 r)) := by
  have key := x_up (P := fun m n => ∀ r : Int, 0 ≤ r → r ≤ 15 → f_X12_run_137 k65 x (m + 1) h v1 (jI p) (jI i) (jI r) (jI (-1)) (jI 0) (jI ((n : Int) + 2)) = f_X12_run_203 k65 x h v1 (jI p) (jI i) (jI (dr_ (sl_ (wd x h) p i) (4 - n) ((n : Int) + 2) r))) 4 (fun m r _ _ => by
    rw [f_X12_run_137, if_pos (by decide)]
    rfl) (fun m n hn ih r r0 r1 => by
    have wb := wt_b (f := sl_ (wd x h) p i) (k := (n : Int) + 2)
    rw [f_X12_run_137, if_neg (show ¬ (6 : Int32) ≤ jI ((n : Int) + 2) from fun q => absurd ((jI_le (a := 6) (by omega) (by omega) (by omega) (by omega)).mp q) (by omega)), if_pos (show jI 0 = (0 : Int32) from rfl), r_wgt I hp hq hi (by omega), Option.bind_some, xl_, show 4 - n = 4 - (n + 1) + 1 by omega]
    unfold dr_ f_X12_run_190
    by_cases c : r < wt_ (sl_ (wd x h) p i) ((n : Int) + 2)
    · rw [if_neg (fun q => absurd ((jI_le (by omega) (by omega) (by omega) (by omega)).mp q) (by omega)), if_neg (show ¬ (1 : Int32) = 0 by decide), if_pos c, sr_slip I hp hq hi (by omega), Option.bind_some, f_X12_run_137]
      rw [if_neg (show ¬ (1 : Int32) = 0 by decide), ite_self]
    · rw [if_pos ((jI_le (by omega) (by omega) (by omega) (by omega)).mpr (by omega)), if_pos (show (0 : Int32) = 0 from rfl), if_neg c, jI_sub, show (1 : Int32) = jI 1 from rfl, jI_add]
      have k := ih (r - wt_ (sl_ (wd x h) p i) ((n : Int) + 2)) (by omega) (by omega)
      rw [show ((n + 1 : Nat) : Int) + 2 = (n : Int) + 2 + 1 by omega] at k
      exact k) 4 0 99999 (by omega) (by omega)
  exact key r hr.1 hr.2
theorem r_run {gh : Nat} {x : Nat} {K : XK} {h : XH} (I : Inv gh x K h) {p t : Nat} (hp : (p : Int) < wd x h 1) (hq : 0 < wd x h (290 + 81 * p + 3)) (ht : (t : Int) < wd x h 2) {s : Int32} {H : XH} (eH : wd x H = wd x h) (e16 : H.1 (x + 64) 16 = s) :
    ∃ H2, f_X12_run_65 x x_FU H (jI t) (jI p) (jI 0) = some (jI (kn_ (wd x (gs_ x t p h s (wd x h (290 + 81 * p + 2)).toNat).1) p 0 (wd x h (290 + 81 * p + 2)).toNat), H2) ∧ wd x H2 = wd x (gs_ x t p h s (wd x h (290 + 81 * p + 2)).toNat).1 ∧ (∀ a, a ≠ x + 64 → a ≠ x + 65 → a ≠ x + 69 → a ≠ x + 70 → H2.1 a = H.1 a) ∧ (∀ k, k ≠ 16 → H2.1 (x + 64) k = H.1 (x + 64) k) ∧ H2.2 = H.2 := by
  have w1 := I.w1
  have w2 := I.w2
  obtain ⟨-, -, -, -, -, -, p7, p8, -⟩ := I.wp hp
  have key := x_up0 (P := fun m n => ∀ H1 : XH, wd x H1 = wd x (gs_ x t p h s n).1 → H1.1 (x + 64) 16 = (gs_ x t p h s n).2 → (∀ a, a ≠ x + 64 → a ≠ x + 65 → a ≠ x + 69 → a ≠ x + 70 → H1.1 a = H.1 a) → (∀ k, k ≠ 16 → H1.1 (x + 64) k = H.1 (x + 64) k) → H1.2 = H.2 → ∃ H2, f_X12_run_65 x m H1 (jI t) (jI p) (jI (n : Int)) = some (jI (kn_ (wd x (gs_ x t p h s (wd x h (290 + 81 * p + 2)).toNat).1) p 0 (wd x h (290 + 81 * p + 2)).toNat), H2) ∧ wd x H2 = wd x (gs_ x t p h s (wd x h (290 + 81 * p + 2)).toNat).1 ∧ (∀ a, a ≠ x + 64 → a ≠ x + 65 → a ≠ x + 69 → a ≠ x + 70 → H2.1 a = H.1 a) ∧ (∀ k, k ≠ 16 → H2.1 (x + 64) k = H.1 (x + 64) k) ∧ H2.2 = H.2) (wd x h (290 + 81 * p + 2)).toNat (by omega) (fun m H1 q1 q2 q3 q4 q5 => by
    obtain ⟨g1, g2, g3, g4⟩ := gs_k I (t := t) hp (s := s) (wd x h (290 + 81 * p + 2)).toNat (by omega)
    have rv : Rv gh x K H1 := g1.rw q1
    have o2 : f_X12_of x H1 (jI p) 2 = some (jI (wd x H1 (290 + 81 * p + 2))) := of_2 (by omega)
    rw [q1, g2 _ (by omega)] at o2
    have rk := sr_kns rv (p := p) (k := 0) (by rw [q1, g2 1 (by omega)]; exact hp) (by rw [q1, g2 _ (by omega)]; exact hq) (by omega)
    rw [q1, g2 (290 + 81 * p + 2) (by omega)] at rk
    refine ⟨H1, ?_, q1, q3, q4, q5⟩
    unfold f_X12_run_65
    rw [o2, Option.bind_some, if_pos ((jI_le (by omega) (by omega) (by omega) (by omega)).mpr (by omega)), show (0 : Int32) = jI 0 from rfl, rk, Option.bind_some]) (fun m n hn ih H1 q1 q2 q3 q4 q5 => by
    obtain ⟨g1, g2, g3, g4⟩ := gs_k I (t := t) hp (s := s) n (by omega)
    have o2 : f_X12_of x H1 (jI p) 2 = some (jI (wd x H1 (290 + 81 * p + 2))) := of_2 (by omega)
    rw [q1, g2 _ (by omega)] at o2
    generalize hG : gs_ x t p h s n = G at *
    have hb := hn_b (w := wd x G.1) (t := t) (p := p) (ck := wd x G.1 6) (i := (n : Int))
    have db := dz_b (nx_ G.2)
    have db2 := dz_b (nx_ (nx_ G.2))
    have m0 : 0 ≤ dz_ (nx_ G.2) % 100 := Int.emod_nonneg _ (by omega)
    have m1 : dz_ (nx_ G.2) % 100 < 100 := Int.emod_lt_of_pos _ (by omega)
    -- the first draw
    have d1 : f_X12_draw x H1 = (jI (dz_ (nx_ G.2)), x_i H1 (x + 64) 16 (nx_ G.2)) := by
      unfold f_X12_draw
      rw [xl_, q2, gi_s, dw_e]
      show (dw_ (nx_ G.2), _) = _
      rw [dz_j]
      rfl
    have eD : wd x (x_i H1 (x + 64) 16 (nx_ G.2)) = wd x G.1 := by rw [wm0, q1]
    have rn := sr_now (g1.rw eD) (p := p) (t := t) (i := (n : Int)) (by rw [eD, g2 1 (by omega)]; exact hp) (by rw [eD, g2 _ (by omega)]; exact hq) (by rw [eD, g2 2 (by omega)]; exact ht) (by rw [eD, g2 _ (by omega)]; omega)
    rw [eD] at rn
    obtain ⟨H3, k1, k2, k3⟩ := rn
    have e3 : wd x H3 = wd x G.1 := by
      rw [(Fr.o2 k2 k3 (by decide) (by decide) : Fr x _ H3).ew, eD]
    have s3 : H3.1 (x + 64) 16 = nx_ G.2 := by rw [k2 _ (by omega) (by omega)]; exact gi_s
    -- what is said is written: the next one
    have nxt : ∀ (H5 : XH) (s5 : Int32) (c : Int), -1 ≤ c ∧ c < 52 → wd x H5 = wd x G.1 → H5.1 (x + 64) 16 = s5 → (∀ a, a ≠ x + 64 → a ≠ x + 65 → a ≠ x + 69 → a ≠ x + 70 → H5.1 a = H.1 a) → (∀ k, k ≠ 16 → H5.1 (x + 64) k = H.1 (x + 64) k) → H5.2 = H.2 → r1_ (wd x G.1) t p n G.2 = (c, s5) → ∃ H2, Option.bind (f_X12_sets x H5 (jI p) (29 + jI n) (jI c)) (fun h15 => f_X12_run_215 (f_X12_run_65 x m) x h15 (jI t) (jI p) (jI n)) = some (jI (kn_ (wd x (gs_ x t p h s (wd x h (290 + 81 * p + 2)).toNat).1) p 0 (wd x h (290 + 81 * p + 2)).toNat), H2) ∧ wd x H2 = wd x (gs_ x t p h s (wd x h (290 + 81 * p + 2)).toNat).1 ∧ (∀ a, a ≠ x + 64 → a ≠ x + 65 → a ≠ x + 69 → a ≠ x + 70 → H2.1 a = H.1 a) ∧ (∀ k, k ≠ 16 → H2.1 (x + 64) k = H.1 (x + 64) k) ∧ H2.2 = H.2 := by
      intro H5 s5 c hc t1 t2 t3 t4 t5 t6
      have st := rq_set (x := x) (H := H5) (p := p) (j := 29 + (n : Int)) (v := jI c) (by omega) (by omega)
      rw [show (29 + (n : Int)).toNat = 29 + n by omega, ← Nat.add_assoc] at st
      have en : gs_ x t p h s (n + 1) = (sa_ x G.1 p n c, s5) := by
        show (sa_ x _ p n _, _) = _
        rw [hG, t6]
      rw [show (29 : Int32) = jI 29 from rfl, jI_add, st, Option.bind_some]
      unfold f_X12_run_215
      rw [jI_s]
      refine ih _ ?_ ?_ (fun a n1 n2 n3 n4 => by rw [gi_n n2]; exact t3 a n1 n2 n3 n4) (fun k hk => by rw [gi_n (by omega)]; exact t4 k hk) t5
      · rw [en, sa_w (by omega) hc]
        funext k
        unfold us_
        rw [wd_s k (by omega) (by omega), t1]
      · rw [en, gi_n (by omega)]
        exact t2
    have fr3 : ∀ a, a ≠ x + 64 → a ≠ x + 65 → a ≠ x + 69 → a ≠ x + 70 → H3.1 a = H.1 a := fun a n1 n2 n3 n4 => by rw [k2 a n3 n4, gi_n n1]; exact q3 a n1 n2 n3 n4
    have fr4 : ∀ k, k ≠ 16 → H3.1 (x + 64) k = H.1 (x + 64) k := fun k hk => by rw [k2 _ (by omega) (by omega), gi_k hk]; exact q4 k hk
    have fr5 : H3.2 = H.2 := by rw [k3]; exact q5
    rw [f_X12_run_65, o2, Option.bind_some, if_neg (fun q => absurd ((jI_le (by omega) (by omega) (by omega) (by omega)).mp q) (by omega)), xl_, d1, k1, Option.bind_some, show (100 : Int32) = jI 100 from rfl, jI_rem (by omega) (by omega) (by omega) (by omega)]
    by_cases c : hn_ (wd x G.1) t p (wd x G.1 6) n ≤ dz_ (nx_ G.2) % 100
    · rw [if_pos ((jI_le (by omega) (by omega) (by omega) (by omega)).mpr c)]
      have d2 : f_X12_draw x H3 = (jI (dz_ (nx_ (nx_ G.2))), x_i H3 (x + 64) 16 (nx_ (nx_ G.2))) := by
        unfold f_X12_draw
        rw [xl_, s3, gi_s, dw_e]
        show (dw_ (nx_ (nx_ G.2)), _) = _
        rw [dz_j]
        rfl
      have e4 : wd x (x_i H3 (x + 64) 16 (nx_ (nx_ G.2))) = wd x G.1 := by rw [wm0, e3]
      have rv4 : Rv gh x K (x_i H3 (x + 64) 16 (nx_ (nx_ G.2))) := g1.rw e4
      have c1 : (p : Int) < wd x (x_i H3 (x + 64) 16 (nx_ (nx_ G.2))) 1 := by rw [e4, g2 1 (by omega)]; exact hp
      have c2 : 0 < wd x (x_i H3 (x + 64) 16 (nx_ (nx_ G.2))) (290 + 81 * p + 3) := by rw [e4, g2 _ (by omega)]; exact hq
      have c3 : 0 ≤ (n : Int) ∧ (n : Int) < wd x (x_i H3 (x + 64) 16 (nx_ (nx_ G.2))) (290 + 81 * p + 2) := by rw [e4, g2 _ (by omega)]; omega
      have al := r_allw rv4 c1 c2 c3
      have b := wA_5 (f := sl_ (wd x G.1) p n)
      have n0 : 0 ≤ dz_ (nx_ (nx_ G.2)) % wA_ (sl_ (wd x G.1) p n) 5 := Int.emod_nonneg _ (by omega)
      have n1 : dz_ (nx_ (nx_ G.2)) % wA_ (sl_ (wd x G.1) p n) 5 < wA_ (sl_ (wd x G.1) p n) 5 := Int.emod_lt_of_pos _ (by omega)
      have rr := r_r137 rv4 (k65 := f_X12_run_65 x m) (v1 := jI t) c1 c2 c3 (r := dz_ (nx_ (nx_ G.2)) % wA_ (sl_ (wd x G.1) p n) 5) (by omega)
      rw [e4] at al rr
      rw [xl_, d2, al, Option.bind_some, if_neg (j_ne0 (by omega) (by omega) (by omega)), jI_rem (by omega) (by omega) (by omega) (by omega), m1_, show (0 : Int32) = jI 0 from rfl, show (2 : Int32) = jI 2 from rfl, rr]
      exact nxt _ (nx_ (nx_ G.2)) _ (dr_b (fun k _ _ => sl_b g1) 4 2 _ (by omega) (by omega)) e4 gi_s (fun a n1 n2 n3 n4 => by rw [gi_n n1]; exact fr3 a n1 n2 n3 n4) (fun k hk => by rw [gi_k hk]; exact fr4 k hk) fr5 (if_pos c)
    · rw [if_neg (fun q => c ((jI_le (by omega) (by omega) (by omega) (by omega)).mp q))]
      have rv3 : Rv gh x K H3 := g1.rw e3
      have cc := sr_card rv3 (p := p) (i := (n : Int)) (by rw [e3, g2 1 (by omega)]; exact hp) (by omega)
      rw [e3] at cc
      have cb := cd_b (wd x G.1) p n
      rw [cc, Option.bind_some]
      exact nxt _ (nx_ G.2) _ (by omega) e3 s3 fr3 fr4 fr5 (if_neg c))
  exact key H eH e16 (fun _ _ _ _ _ => rfl) (fun _ _ => rfl) rfl
theorem P_row18 {gh : Nat} {x : Nat} {K : XK} {h : XH} (I : Inv gh x K h) (a1 a2 a3 : Int32) : ∃ h', f_row18 K x h a1 a2 a3 = some h' ∧ Inv gh x K h' := by
  obtain ⟨z1, z1a, z1b, rfl⟩ := jI_ex a1
  obtain ⟨z2, z2a, z2b, rfl⟩ := jI_ex a2
  have e0 : ∀ b1 b2 b3, f_row18 K x h b1 b2 b3 = rc_ x (x_lb (f_X11_run K x h b1 b2 b3) [0, 2] (fun v h => x_l h (x + 76) (0 : Int32).toNatClampNeg v.toInt64)) (fun h => f_X12_run x h b1 b2 b3) := fun _ _ _ => rfl
  rw [e0]
  have w1 := I.w1
  have w2 := I.w2
  by_cases cL : 0 ≤ z1 ∧ z1 < wd x h 2
  · obtain ⟨t, rfl⟩ : ∃ t : Nat, z1 = t := ⟨z1.toNat, by omega⟩
    by_cases cP : 0 ≤ z2 ∧ z2 < wd x h 1
    · obtain ⟨p, rfl⟩ : ∃ p : Nat, z2 = p := ⟨z2.toNat, by omega⟩
      have hp := cP.2
      obtain ⟨-, -, -, -, -, -, p7, p8, -⟩ := I.wp hp
      by_cases hq : 0 < wd x h (290 + 81 * p + 3)
      · obtain ⟨hh, q1, q2, q3⟩ := c_run I hp hq cL.2 (s := a3)
        generalize hV : kn_ (wd x (gs_ x t p h a3 (wd x h (290 + 81 * p + 2)).toNat).1) p 0 (wd x h (290 + 81 * p + 2)).toNat = V at q1
        have hC : f_X11_run K x h (jI t) (jI p) a3 = some (.inr (jI V), hh) := by
          unfold f_X11_run
          rw [ckL_y I cL, xb_v, ckT_y I hp hq, xb_v, if_pos (jI_b (by omega) (by omega) (by omega)), nat_ (by omega), show (0 : Int32) = jI 0 from rfl, q1]
        generalize hH : x_l hh (x + 76) (0 : Int32).toNatClampNeg (jI V).toInt64 = H
        have r1 : ∀ a, H.1 a = hh.1 a := fun a => by rw [← hH]; rfl
        have eH : wd x (x_i (x_i H (x + 64) 0 (jI 0)) (x + 64) 16 a3) = wd x h := by
          rw [wm0, wm0]
          funext k
          unfold wd
          rw [r1, q3]
        have eH1 : wd x (x_i H (x + 64) 0 (jI 0)) = wd x h := by
          rw [wm0]
          funext k
          unfold wd
          rw [r1, q3]
        have rr := r_run I hp hq cL.2 (s := a3) eH gi_s
        rw [hV] at rr
        obtain ⟨H2, k1, k2, k3, k4, k5⟩ := rr
        have e3 := rq_isp I eH1 hp
        rw [if_pos hq] at e3
        obtain ⟨g1, g2, g3, g4⟩ := gs_k I (t := t) hp (s := a3) (wd x h (290 + 81 * p + 2)).toNat (by omega)
        have F : Fr x (gs_ x t p h a3 (wd x h (290 + 81 * p + 2)).toNat).1 H2 := by
          have c64 : ∀ k, k ≠ 16 → k ≠ 0 → H2.1 (x + 64) k = (gs_ x t p h a3 (wd x h (290 + 81 * p + 2)).toNat).1.1 (x + 64) k := fun k n1 n2 => by
            rw [k4 k n1, gi_k n1, gi_k n2, r1, q2.1 _ (by omega) (by omega) (by omega) (by omega)]
          have c1 : H2.1 (x + 1) = (gs_ x t p h a3 (wd x h (290 + 81 * p + 2)).toNat).1.1 (x + 1) := by
            rw [k3 _ (by omega) (by omega) (by omega) (by omega), gi_n (by omega), gi_n (by omega), r1, q2.1 _ (by omega) (by omega) (by omega) (by omega)]
          refine ⟨fun a n1 n2 n3 => ?_, by rw [c1], by rw [c1], c64 3 (by decide) (by decide), c64 5 (by decide) (by decide), c64 10 (by decide) (by decide), ?_⟩
          · by_cases e : a = x + 65
            · subst e
              exact wd_row k2
            · rw [k3 a n3 e (n1 69 (by decide)) (n1 70 (by decide)), gi_n n3, gi_n n3, r1, q2.1 a (n1 44 (by decide)) (n1 45 (by decide)) (n1 50 (by decide)) e]
          · rw [k5]
            show H.2.2 = _
            rw [← hH]
            show hh.2.2 = _
            rw [q2.2]
        refine ⟨H2, rc_v hC ?_ ?_ ?_, g1.fr F⟩
        · rw [hH]
          unfold f_X12_run
          rw [xl_, show x_i H (x + 64) 0 (0 : Int32) = x_i H (x + 64) 0 (jI 0) from rfl, nl_c eH1, ckL_ry I cL, Option.bind_some, if_pos (show jI 0 = (0 : Int32) from rfl), nk_c eH1, ckP_ry I cP, Option.bind_some, if_pos (show jI 0 = (0 : Int32) from rfl), tv_0, Option.bind_some, if_pos (show (0 : Int32) = 0 from rfl), e3, Option.bind_some, if_neg (show ¬ jI 1 = (0 : Int32) by decide), tv_0, Option.bind_some, if_pos (show (0 : Int32) = 0 from rfl), xl_, show (0 : Int32) = jI 0 from rfl, k1]
        · rw [k4 0 (by decide), gi_k (by decide)]
          exact gi_s
        · rw [k5, hH]
          rfl
      · refine rc_q I (res := .inl 2) ⟨h, ?_, Fr.rf⟩ (fun H J eH => ⟨jI 0, x_i (x_i H (x + 64) 0 (jI 0)) (x + 64) 0 (jI 2), ?_, fr_t, rfl, 1, rfl, by decide, gi_s⟩)
        · unfold f_X11_run
          rw [ckL_y I cL, xb_v, ckT_n I hp hq, xb_e]
        · have ew : wd x (x_i H (x + 64) 0 (jI 0)) = wd x h := by rw [wm0, eH]
          have e1 := ckL_ry J.m0 (z := (t : Int)) (by rw [ew]; exact cL)
          have e2 := ckP_ry J.m0 (z := (p : Int)) (by rw [ew]; exact cP)
          have e3 := r_isp J.m0 (p := p) (by rw [ew]; exact hp)
          rw [ew, if_neg hq] at e3
          unfold f_X12_run
          rw [xl_, show x_i H (x + 64) 0 (0 : Int32) = x_i H (x + 64) 0 (jI 0) from rfl, e1, Option.bind_some, if_pos (show jI 0 = (0 : Int32) from rfl), e2, Option.bind_some, if_pos (show jI 0 = (0 : Int32) from rfl), tv_0, Option.bind_some, if_pos (show (0 : Int32) = 0 from rfl), e3, Option.bind_some, if_pos (show jI 0 = (0 : Int32) from rfl), tv_1, Option.bind_some, if_neg (show ¬ (1 : Int32) = 0 by decide)]
          rfl
    · refine rc_q I (res := .inl 0) ⟨h, ?_, Fr.rf⟩ (fun H J eH => ⟨jI 0, x_i (x_i H (x + 64) 0 (jI 0)) (x + 64) 0 (jI 1), ?_, fr_t, rfl, 0, rfl, by decide, gi_s⟩)
      · unfold f_X11_run
        rw [ckL_y I cL, xb_v, ckT_e I ⟨z2a, z2b⟩ cP, xb_e]
      · have ew : wd x (x_i H (x + 64) 0 (jI 0)) = wd x h := by rw [wm0, eH]
        have e1 := ckL_ry J.m0 (z := (t : Int)) (by rw [ew]; exact cL)
        have e2 := ckP_rn J.m0 (z := z2) ⟨z2a, z2b⟩ (by rw [ew]; exact cP)
        unfold f_X12_run
        rw [xl_, show x_i H (x + 64) 0 (0 : Int32) = x_i H (x + 64) 0 (jI 0) from rfl, e1, Option.bind_some, if_pos (show jI 0 = (0 : Int32) from rfl), e2, Option.bind_some, if_neg (show ¬ jI 1 = (0 : Int32) by decide), tv_1, Option.bind_some, if_neg (show ¬ (1 : Int32) = 0 by decide)]
        rfl
  · refine rc_q I (res := .inl 0) ⟨h, ?_, Fr.rf⟩ (fun H J eH => ⟨jI 0, x_i (x_i H (x + 64) 0 (jI 0)) (x + 64) 0 (jI 1), ?_, fr_t, rfl, 0, rfl, by decide, gi_s⟩)
    · unfold f_X11_run
      rw [ckL_n I ⟨z1a, z1b⟩ cL, xb_e]
    · have ew : wd x (x_i H (x + 64) 0 (jI 0)) = wd x h := by rw [wm0, eH]
      have e1 := ckL_rn J.m0 ⟨z1a, z1b⟩ (by rw [ew]; exact cL)
      unfold f_X12_run f_X12_run_22 f_X12_run_27
      rw [xl_, show x_i H (x + 64) 0 (0 : Int32) = x_i H (x + 64) 0 (jI 0) from rfl, e1, Option.bind_some, if_neg (show ¬ jI 1 = (0 : Int32) by decide), tv_1, Option.bind_some, if_neg (show ¬ (1 : Int32) = 0 by decide)]
      rfl
