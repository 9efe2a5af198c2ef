/-! ===== the reference over any heap with a world that holds ===== -/
def Rv (gh : Nat) (x : Nat) (K : XK) (h : XH) : Prop := WI gh (wd x h) ∧ (∃ h0, Inv gh x K h0 ∧ wd x h0 = wd x h) ∧ True
theorem Inv.rv {gh : Nat} {x : Nat} {K : XK} {h : XH} (I : Inv gh x K h) : Rv gh x K h := ⟨I.1, ⟨h, I, rfl⟩, trivial⟩
theorem Inv.rw {gh : Nat} {x : Nat} {K : XK} {h h' : XH} (I : Inv gh x K h) (e : wd x h' = wd x h) : Rv gh x K h' := ⟨by rw [e]; exact I.1, ⟨h, I, e.symm⟩, trivial⟩
theorem Rv.rw {gh : Nat} {x : Nat} {K : XK} {h h' : XH} (I : Rv gh x K h) (e : wd x h' = wd x h) : Rv gh x K h' := by
  obtain ⟨a, ⟨h0, b, c⟩, -⟩ := I
  exact ⟨by rw [e]; exact a, ⟨h0, b, by rw [e]; exact c⟩, trivial⟩
theorem Rv.fr {gh : Nat} {x : Nat} {K : XK} {h h' : XH} (I : Rv gh x K h) (f : Fr x h h') : Rv gh x K h' := I.rw f.ew
theorem Rv.wp {gh : Nat} {x : Nat} {K : XK} {h : XH} (I : Rv gh x K h) {q : Nat} (hq : (q : Int) < wd x h 1) : WPk (wd x h) (290 + 81 * q) := I.1.2.2.2.1 q hq
theorem Rv.w1 {gh : Nat} {x : Nat} {K : XK} {h : XH} (I : Rv gh x K h) : 0 ≤ wd x h 1 ∧ wd x h 1 ≤ 8 := ⟨I.1.1.2.2.1, I.1.1.2.2.2.1⟩
theorem Rv.w0 {gh : Nat} {x : Nat} {K : XK} {h : XH} (I : Rv gh x K h) : 0 ≤ wd x h 0 ∧ wd x h 0 ≤ 6 := ⟨I.1.1.1, I.1.1.2.1⟩
theorem Rv.dr {gh : Nat} {x : Nat} {K : XK} {h : XH} (I : Rv gh x K h) {j : Int} (hj : 0 ≤ j ∧ j < wd x h 0) : 1 ≤ wd x h (164 + 21 * j.toNat) ∧ wd x h (164 + 21 * j.toNat) ≤ 20 := by
  have := I.1.2.2.1 j.toNat (by omega)
  exact ⟨this.1, this.2.1⟩
theorem spc_b {gh : Nat} {x : Nat} {K : XK} {h : XH} (I : Rv gh x K h) {p : Nat} (hp : (p : Int) < wd x h 1) : 1 ≤ pc_ (wd x h) p ∧ pc_ (wd x h) p ≤ 52 := by
  obtain ⟨-, -, -, -, -, -, p7, p8, -, -, p11, p12, -⟩ := I.wp hp
  exact pl_b p7 p8 p11 p12
theorem spa_b {gh : Nat} {x : Nat} {K : XK} {h : XH} (I : Rv gh x K h) {p : Nat} (hp : (p : Int) < wd x h 1) {hs dr : Int} : -1 ≤ pa_ (wd x h) p hs dr ∧ pa_ (wd x h) p hs dr < 52 := by
  have hb := spc_b I hp
  unfold pa_
  split <;> omega
theorem sold_b {gh : Nat} {x : Nat} {K : XK} {h : XH} (I : Rv gh x K h) {n p : Nat} {hs dr ah : Int} (hn : n ≤ 8) : 0 ≤ sm_ n (fun q => if q ≠ p ∧ wd x h (290 + 81 * q + 3) < ah ∧ 0 ≤ pa_ (wd x h) q hs dr then 1 else 0) ∧ sm_ n (fun q => if q ≠ p ∧ wd x h (290 + 81 * q + 3) < ah ∧ 0 ≤ pa_ (wd x h) q hs dr then 1 else 0) ≤ 8 := by
  have := sm_b (n := n) (f := fun q => if q ≠ p ∧ wd x h (290 + 81 * q + 3) < ah ∧ 0 ≤ pa_ (wd x h) q hs dr then 1 else 0) (lo := 0) (hi := 1) (fun i hi => by split <;> omega)
  omega
theorem Rv.w2 {gh : Nat} {x : Nat} {K : XK} {h : XH} (I : Rv gh x K h) : 0 ≤ wd x h 2 ∧ wd x h 2 ≤ 3 := ⟨I.1.1.2.2.2.2.1, I.1.1.2.2.2.2.2.1⟩
theorem Rv.w6 {gh : Nat} {x : Nat} {K : XK} {h : XH} (I : Rv gh x K h) : 0 ≤ wd x h 6 ∧ wd x h 6 ≤ 1000000 := ⟨I.1.1.2.2.2.2.2.2.2.2.2.2.2.2.1, I.1.1.2.2.2.2.2.2.2.2.2.2.2.2.2.1⟩
theorem Rv.w7 {gh : Nat} {x : Nat} {K : XK} {h : XH} (I : Rv gh x K h) : 0 ≤ wd x h 7 ∧ wd x h 7 ≤ 8 := ⟨I.1.1.2.2.2.2.2.2.2.2.2.2.2.2.2.2.1, I.1.1.2.2.2.2.2.2.2.2.2.2.2.2.2.2.2⟩
theorem Rv.gn {gh : Nat} {x : Nat} {K : XK} {h : XH} (I : Rv gh x K h) {p : Nat} (hp : (p : Int) < wd x h 1) : wd x h (290 + 81 * p + 8) ≤ 1000 := by
  have h1 := I.1.2.2.2.2.1.2.2.2.1
  have h2 := I.1.2.2.2.2.1.2.2.2.2 p hp
  rw [show 290 + 81 * p + 8 = 298 + 81 * p by omega]
  omega
theorem Rv.wl {gh : Nat} {x : Nat} {K : XK} {h : XH} (I : Rv gh x K h) {t : Nat} (ht : (t : Int) < wd x h 2) : WTx (wd x h) (970 + 851 * t) false := I.1.2.2.2.2.2.2.2.2.1 t ht
theorem sr_card {gh : Nat} {x : Nat} {K : XK} {h : XH} (I : Rv gh x K h) {p : Nat} (hp : (p : Int) < wd x h 1) {i : Int} (hi : 0 ≤ i ∧ i ≤ 60) : f_X12_cardOf x h (jI (p : Int)) (jI i) = some (jI (cd_ (wd x h) p i)) := by
  have h1 := I.w1
  obtain ⟨p1, p2, p3, p4, -⟩ := I.wp hp
  have hm := i_st hi.1 hi.2 (show 0 ≤ wd x h (290 + 81 * p + 1) by omega) (by omega)
  have o0 := of_0 (x := x) (h := h) (p := p) (by omega)
  have o1 := of_1 (x := x) (h := h) (p := p) (by omega)
  simp (disch := omega) only [f_X12_cardOf, jL, jJ, jI_lt, jI_le, jI_eq, jI_nat, jBt, jBo, x_let, if_pos, if_neg, if_true, Option.bind_some, wd_j, and_self, true_and, and_true, Int.toNat_zero, Int.toNat_natCast, isb0, isb1, o0, o1, jI_rem, cd_]
theorem sr_places {gh : Nat} {x : Nat} {K : XK} {h : XH} (I : Rv gh x K h) {p : Nat} (hp : (p : Int) < wd x h 1) : f_X12_places x h (jI (p : Int)) = some (jI (pc_ (wd x h) p)) := by
  have h1 := I.w1
  obtain ⟨-, -, -, -, -, -, p7, p8, -, -, p11, p12, -⟩ := I.wp hp
  have o2 := of_2 (x := x) (h := h) (p := p) (by omega)
  have o6 := of_6 (x := x) (h := h) (p := p) (by omega)
  simp (disch := omega) only [f_X12_places, jL, jJ, jI_lt, jI_le, jI_eq, jI_nat, jBt, jBo, x_let, if_pos, if_neg, if_true, Option.bind_some, wd_j, and_self, true_and, and_true, Int.toNat_zero, Int.toNat_natCast, isb0, isb1, o2, o6, r_pf, pc_]
theorem sr_isp {gh : Nat} {x : Nat} {K : XK} {h : XH} (I : Rv gh x K h) {p : Nat} (hp : (p : Int) < wd x h 1) : f_X12_isPut x h (jI (p : Int)) = some (jI (if 0 < wd x h (290 + 81 * p + 3) then 1 else 0)) := by
  have h1 := I.w1
  have h7 := I.1.1.2.2.2.2.2.2.2.2.2.2.2.2.2.2.2
  obtain ⟨-, -, -, -, -, -, -, -, p9, p10, -⟩ := I.wp hp
  have o3 := of_3 (x := x) (h := h) (p := p) (by omega)
  by_cases c : 0 < wd x h (290 + 81 * p + 3)
  · simp (disch := omega) only [f_X12_isPut, jL, jJ, jI_lt, jI_le, jI_eq, jI_nat, jBt, jBo, x_let, if_pos, if_neg, if_true, Option.bind_some, wd_j, and_self, true_and, and_true, Int.toNat_zero, Int.toNat_natCast, isb0, isb1, o3]
  · simp (disch := omega) only [f_X12_isPut, jL, jJ, jI_lt, jI_le, jI_eq, jI_nat, jBt, jBo, x_let, if_pos, if_neg, if_true, Option.bind_some, wd_j, and_self, true_and, and_true, Int.toNat_zero, Int.toNat_natCast, isb0, isb1, o3]
theorem sr_pat {gh : Nat} {x : Nat} {K : XK} {h : XH} (I : Rv gh x K h) {p : Nat} (hp : (p : Int) < wd x h 1) {hs dr : Int} (hh : 0 ≤ hs ∧ hs ≤ 100) (hd : 0 ≤ dr ∧ dr ≤ 100) : f_X12_placeAt x h (jI (p : Int)) (jI hs) (jI dr) = some (jI (pa_ (wd x h) p hs dr)) := by
  have h1 := I.w1
  have h0 := I.w0
  have hb := spc_b I hp
  obtain ⟨p1, p2, p3, p4, p5, p6, p7, p8, p9, p10, p11, p12, p13, p14⟩ := I.wp hp
  have o5 := of_5 (x := x) (h := h) (p := p) (by omega)
  have o4 := of_4 (x := x) (h := h) (p := p) (by omega)
  have hq := sr_isp I hp
  have hl := sr_places I hp
  by_cases c : 0 < wd x h (290 + 81 * p + 3)
  · obtain ⟨u1, u2, u3, u4, -⟩ := p14 c
    have := I.dr ⟨u1, u2⟩
    have hb2 : pl_ (wd x h (290 + 81 * p + 2)) (wd x h (290 + 81 * p + 6)) = pc_ (wd x h) p := rfl
    rw [hb2] at u4
    rw [if_pos c] at hq
    unfold pa_
    by_cases c2 : wd x h (290 + 81 * p + 4) = hs
    · by_cases c3 : dr - wd x h (290 + 81 * p + 5) < 0
      · simp (disch := omega) only [f_X12_placeAt, f_X12_placeAt_49, f_X12_in, jL, jJ, jI_lt, jI_le, jI_eq, jI_nat, jBt, jBo, x_let, if_pos, if_neg, if_true, Option.bind_some, wd_j, and_self, true_and, and_true, Int.toNat_zero, Int.toNat_natCast, isb0, isb1, o5, o4, hq, hl, m1_]
      · by_cases c4 : dr - wd x h (290 + 81 * p + 5) < pc_ (wd x h) p
        · simp (disch := omega) only [f_X12_placeAt, f_X12_placeAt_49, f_X12_in, jL, jJ, jI_lt, jI_le, jI_eq, jI_nat, jBt, jBo, x_let, if_pos, if_neg, if_true, Option.bind_some, wd_j, and_self, true_and, and_true, Int.toNat_zero, Int.toNat_natCast, isb0, isb1, o5, o4, hq, hl, m1_]
        · simp (disch := omega) only [f_X12_placeAt, f_X12_placeAt_49, f_X12_in, jL, jJ, jI_lt, jI_le, jI_eq, jI_nat, jBt, jBo, x_let, if_pos, if_neg, if_true, Option.bind_some, wd_j, and_self, true_and, and_true, Int.toNat_zero, Int.toNat_natCast, isb0, isb1, o5, o4, hq, hl, m1_]
    · simp (disch := omega) only [f_X12_placeAt, f_X12_placeAt_49, f_X12_in, jL, jJ, jI_lt, jI_le, jI_eq, jI_nat, jBt, jBo, x_let, if_pos, if_neg, if_true, Option.bind_some, wd_j, and_self, true_and, and_true, Int.toNat_zero, Int.toNat_natCast, isb0, isb1, o5, o4, hq, hl, m1_]
  · rw [if_neg c] at hq
    unfold pa_
    simp (disch := omega) only [f_X12_placeAt, f_X12_placeAt_49, f_X12_in, jL, jJ, jI_lt, jI_le, jI_eq, jI_nat, jBt, jBo, x_let, if_pos, if_neg, if_true, Option.bind_some, wd_j, and_self, true_and, and_true, Int.toNat_zero, Int.toNat_natCast, isb0, isb1, o5, o4, hq, hl, m1_]
theorem sr_old {gh : Nat} {x : Nat} {K : XK} {h : XH} (I : Rv gh x K h) {p : Nat} (hp : (p : Int) < wd x h 1) {hs dr ah : Int} (hh : 0 ≤ hs ∧ hs ≤ 100) (hd : 0 ≤ dr ∧ dr ≤ 100) (ho : 0 ≤ ah ∧ ah ≤ 10000) : f_X12_oldAt x h (jI (p : Int)) (jI hs) (jI dr) (jI ah) = some (jI (old_ (wd x h) p hs dr ah)) := by
  have h1 := I.w1
  have h77 := I.1.1.2.2.2.2.2.2.2.2.2.2.2.2.2.2.2
  have t1 : (1 : Int).toNat = 1 := rfl
  generalize hN : (wd x h 1).toNat = N
  generalize hf : (fun q : Nat => if q ≠ p ∧ wd x h (290 + 81 * q + 3) < ah ∧ 0 ≤ pa_ (wd x h) q hs dr then (1 : Int) else 0) = f
  have hb : ∀ n, n ≤ 8 → 0 ≤ sm_ n f ∧ sm_ n f ≤ 8 := fun n hn => by rw [← hf]; exact sold_b I hn
  have key := x_up0 (P := fun m i => f_X12_oldAt_6 x h m (jI (p : Int)) (jI hs) (jI dr) (jI ah) (jI (sm_ i f)) (jI (i : Int)) = some (jI (sm_ N f))) N (by omega) (fun m => by
    simp (disch := omega) only [f_X12_oldAt_6, t1, jL, jJ, jI_lt, jI_le, jI_eq, jI_nat, jBt, jBo, x_let, if_pos, if_neg, if_true, Option.bind_some, wd_j, and_self, true_and, and_true, Int.toNat_zero, Int.toNat_natCast, isb0, isb1]) (fun m i hi ih => by
    have hi1 : (i : Int) < wd x h 1 := by omega
    have hbi := hb i (by omega)
    obtain ⟨p1, p2, p3, p4, p5, p6, p7, p8, p9, p10, p11, p12, p13, p14⟩ := I.wp hi1
    have hpa := sr_pat I hi1 hh hd
    have hpb := spa_b I hi1 (hs := hs) (dr := dr)
    have o3 := of_3 (x := x) (h := h) (p := i) (by omega)
    have hfi : f i = if i ≠ p ∧ wd x h (290 + 81 * i + 3) < ah ∧ 0 ≤ pa_ (wd x h) i hs dr then (1 : Int) else 0 := by rw [← hf]
    by_cases c1 : i = p
    · rw [if_neg (by omega)] at hfi
      simp only [sm_s, hfi, Int.natCast_add, Int.natCast_one] at ih
      simp (disch := omega) only [f_X12_oldAt_6, f_X12_oldAt_52, f_X12_oldAt_53, t1, jL, jJ, jI_lt, jI_le, jI_eq, jI_nat, jBt, jBo, x_let, if_pos, if_neg, if_true, Option.bind_some, wd_j, and_self, true_and, and_true, Int.toNat_zero, Int.toNat_natCast, isb0, isb1, ih]
    · by_cases c3 : wd x h (290 + 81 * i + 3) < ah
      · by_cases c4 : 0 ≤ pa_ (wd x h) i hs dr
        · rw [if_pos (by omega)] at hfi
          simp only [sm_s, hfi, Int.natCast_add, Int.natCast_one] at ih
          simp (disch := omega) only [f_X12_oldAt_6, f_X12_oldAt_52, f_X12_oldAt_53, t1, o3, hpa, jL, jJ, jI_lt, jI_le, jI_eq, jI_nat, jBt, jBo, x_let, if_pos, if_neg, if_true, Option.bind_some, wd_j, and_self, true_and, and_true, Int.toNat_zero, Int.toNat_natCast, isb0, isb1, ih]
        · rw [if_neg (by omega)] at hfi
          simp only [sm_s, hfi, Int.natCast_add, Int.natCast_one] at ih
          simp (disch := omega) only [f_X12_oldAt_6, f_X12_oldAt_52, f_X12_oldAt_53, t1, o3, hpa, jL, jJ, jI_lt, jI_le, jI_eq, jI_nat, jBt, jBo, x_let, if_pos, if_neg, if_true, Option.bind_some, wd_j, and_self, true_and, and_true, Int.toNat_zero, Int.toNat_natCast, isb0, isb1, ih]
      · rw [if_neg (by omega)] at hfi
        simp only [sm_s, hfi, Int.natCast_add, Int.natCast_one] at ih
        simp (disch := omega) only [f_X12_oldAt_6, f_X12_oldAt_52, f_X12_oldAt_53, t1, o3, hpa, jL, jJ, jI_lt, jI_le, jI_eq, jI_nat, jBt, jBo, x_let, if_pos, if_neg, if_true, Option.bind_some, wd_j, and_self, true_and, and_true, Int.toNat_zero, Int.toNat_natCast, isb0, isb1, ih])
  simp only [f_X12_oldAt, old_, hN, hf, jL]
  exact key
theorem sr_look {gh : Nat} {x : Nat} {K : XK} {h : XH} (I : Rv gh x K h) {j d : Int} (hj : 0 ≤ j ∧ j < wd x h 0) (hd : 0 ≤ d ∧ d < 20) : f_X12_lookOf x h (jI j) (jI d) = some (jI (lk_ (wd x h) j d)) := by
  have h0 := I.w0
  have t : (164 + 21 * j + 1 + d).toNat = 165 + 21 * j.toNat + d.toNat := by omega
  simp (disch := omega) only [f_X12_lookOf, jL, jJ, jI_lt, jI_le, jI_eq, jI_nat, jBt, jBo, x_let, if_pos, if_neg, if_true, Option.bind_some, wd_j, and_self, true_and, and_true, Int.toNat_zero, Int.toNat_natCast, isb0, isb1, t, lk_]
theorem sr_like {gh : Nat} {x : Nat} {K : XK} {h : XH} (I : Rv gh x K h) {hs dr mn pl : Int} (hh : 0 ≤ hs ∧ hs < wd x h 0) (hd : 0 ≤ dr) (hm : dr + mn ≤ 20) (hpl : 0 ≤ pl ∧ pl < mn) :
    f_X12_likeAt x h (jI hs) (jI dr) (jI mn) (jI pl) = some (jI (like_ (wd x h) hs dr mn pl)) := by
  have hlb : ∀ d : Int, 0 ≤ d → d < 20 → 0 ≤ lk_ (wd x h) hs d ∧ lk_ (wd x h) hs d ≤ 9 := fun d q1 q2 => I.1.2.2.1.lk hh ⟨q1, q2⟩
  have hlk := sr_look I hh (d := dr + pl) (by omega)
  have hlp := hlb (dr + pl) (by omega) (by omega)
  generalize hf : (fun k : Nat => if (k : Int) ≠ pl ∧ lk_ (wd x h) hs (dr + k) = lk_ (wd x h) hs (dr + pl) then (1 : Int) else 0) = f
  have hb : ∀ n, n ≤ 52 → 0 ≤ sm_ n f ∧ sm_ n f ≤ 52 := fun n hn => by rw [← hf]; exact like_b hn
  have key := x_up0 (P := fun m i => f_X12_likeAt_6 x h m (jI hs) (jI dr) (jI mn) (jI pl) (jI (sm_ i f)) (jI (i : Int)) = some (jI (sm_ mn.toNat f))) mn.toNat (by omega) (fun m => by
    simp (disch := omega) only [f_X12_likeAt_6, jL, jJ, jI_lt, jI_le, jI_eq, jI_nat, jBt, jBo, x_let, if_pos, if_neg, if_true, Option.bind_some, wd_j, and_self, true_and, and_true, Int.toNat_zero, Int.toNat_natCast, isb0, isb1]) (fun m i hi ih => by
    have hbi := hb i (by omega)
    have hl2 := sr_look I hh (d := dr + i) (by omega)
    have hlq := hlb (dr + i) (by omega) (by omega)
    have hfi : f i = if (i : Int) ≠ pl ∧ lk_ (wd x h) hs (dr + i) = lk_ (wd x h) hs (dr + pl) then (1 : Int) else 0 := by rw [← hf]
    by_cases c1 : (i : Int) = pl
    · rw [if_neg (by omega)] at hfi
      simp only [sm_s, hfi, Int.natCast_add, Int.natCast_one] at ih
      simp (disch := omega) only [f_X12_likeAt_6, f_X12_likeAt_46, f_X12_likeAt_47, jL, jJ, jI_lt, jI_le, jI_eq, jI_nat, jBt, jBo, x_let, if_pos, if_neg, if_true, Option.bind_some, wd_j, and_self, true_and, and_true, Int.toNat_zero, Int.toNat_natCast, isb0, isb1, ih]
    · by_cases c2 : lk_ (wd x h) hs (dr + i) = lk_ (wd x h) hs (dr + pl)
      · rw [if_pos ⟨c1, c2⟩] at hfi
        simp only [sm_s, hfi, Int.natCast_add, Int.natCast_one] at ih
        simp (disch := omega) only [f_X12_likeAt_6, f_X12_likeAt_46, f_X12_likeAt_47, jL, jJ, jI_lt, jI_le, jI_eq, jI_nat, jBt, jBo, x_let, if_pos, if_neg, if_true, Option.bind_some, wd_j, and_self, true_and, and_true, Int.toNat_zero, Int.toNat_natCast, isb0, isb1, hl2, hlk, ih]
      · rw [if_neg (fun q => c2 q.2)] at hfi
        simp only [sm_s, hfi, Int.natCast_add, Int.natCast_one] at ih
        simp (disch := omega) only [f_X12_likeAt_6, f_X12_likeAt_46, f_X12_likeAt_47, jL, jJ, jI_lt, jI_le, jI_eq, jI_nat, jBt, jBo, x_let, if_pos, if_neg, if_true, Option.bind_some, wd_j, and_self, true_and, and_true, Int.toNat_zero, Int.toNat_natCast, isb0, isb1, hl2, hlk, ih])
  rw [f_X12_likeAt]
  unfold like_
  rw [hf]
  exact key
theorem sold_2 {gh : Nat} {x : Nat} {K : XK} {h : XH} (I : Rv gh x K h) {p : Nat} {hs dr ah : Int} : 0 ≤ old_ (wd x h) p hs dr ah ∧ old_ (wd x h) p hs dr ah ≤ 8 := sold_b I (by have := I.w1; omega)
theorem sfg_k {gh : Nat} {x : Nat} {K : XK} {h : XH} (I : Rv gh x K h) {p : Nat} {hs dr per sec gone ah age pl ro du : Int} (b1 : 0 ≤ sec ∧ sec ≤ 60) (b2 : 0 ≤ gone ∧ gone ≤ 120000) (b3 : 0 ≤ age ∧ age ≤ 120000) (b4 : 1 ≤ per ∧ per ≤ 3) (b5 : 0 ≤ ro ∧ ro ≤ 3) (b6 : 0 ≤ du ∧ du ≤ 9) (b7 : pl_ (wd x h (290 + 81 * p + 2)) per ≤ 52) : gk_ false (fg_ (wd x h) p hs dr per sec gone ah age pl ro du) := by
  have ho := sold_2 I (p := p) (hs := hs) (dr := dr + pl) (ah := ah)
  have hl := like_2 (w := wd x h) (hs := hs) (fr := dr) (pl := pl) b7
  have h01 : ∀ c : Prop, [Decidable c] → (if c then (1 : Int) else 0) = 0 ∨ (if c then (1 : Int) else 0) = 1 := fun c _ => by
    by_cases e : c
    · exact Or.inr (if_pos e)
    · exact Or.inl (if_neg e)
  have e8 : fg_ (wd x h) p hs dr per sec gone ah age pl ro du 8 = if pl = 0 then 1 else 0 := by simp [fg_]
  have e9 : fg_ (wd x h) p hs dr per sec gone ah age pl ro du 9 = if pl = pl_ (wd x h (290 + 81 * p + 2)) per - 1 then 1 else 0 := by simp [fg_]
  refine ⟨fun s h0 h1 _ => ?_, by rw [e8]; exact h01 _, fun _ => by rw [e9]; exact h01 _⟩
  have q8 := h01 (pl = 0)
  have q9 := h01 (pl = pl_ (wd x h (290 + 81 * p + 2)) per - 1)
  unfold fg_
  generalize (if pl = 0 then (1 : Int) else 0) = y8 at q8 ⊢
  generalize (if pl = pl_ (wd x h (290 + 81 * p + 2)) per - 1 then (1 : Int) else 0) = y9 at q9 ⊢
  generalize old_ (wd x h) p hs (dr + pl) ah = yo at ho ⊢
  generalize like_ (wd x h) hs dr (pl_ (wd x h (290 + 81 * p + 2)) per) pl = yl at hl ⊢
  rcases (show s = 0 ∨ s = 1 ∨ s = 2 ∨ s = 3 ∨ s = 4 ∨ s = 5 ∨ s = 6 ∨ s = 7 ∨ s = 8 ∨ s = 9 by omega) with e | e | e | e | e | e | e | e | e | e <;> subst e <;> simp <;> omega
theorem sdu_b {gh : Nat} {x : Nat} {K : XK} {h : XH} (I : Rv gh x K h) {p : Nat} {i r : Int} (hr : 0 ≤ r ∧ r < 3) : 0 ≤ du_ (wd x h) (cd_ (wd x h) p i) r ∧ du_ (wd x h) (cd_ (wd x h) p i) r ≤ 9 := by
  have hc := cd_b (wd x h) p i
  have := I.1.2.1 (3 * (cd_ (wd x h) p i).toNat + r.toNat) (by omega)
  unfold du_
  rw [show 8 + 3 * (cd_ (wd x h) p i).toNat + r.toNat = 8 + (3 * (cd_ (wd x h) p i).toNat + r.toNat) by omega]
  exact this
theorem sr_supp {gh : Nat} {x : Nat} {K : XK} {h : XH} (I : Rv gh x K h) {p : Nat} (hp : (p : Int) < wd x h 1) {hs dr per sec gone ah age i : Int} (b1 : 0 ≤ hs ∧ hs < wd x h 0) (b2 : 0 ≤ dr) (b3 : 1 ≤ per ∧ per ≤ 3) (b4 : dr + pl_ (wd x h (290 + 81 * p + 2)) per ≤ 20) (b5 : 0 ≤ ah ∧ ah ≤ 10000) (hi : 0 ≤ i ∧ i < wd x h (290 + 81 * p + 2)) :
    ∃ h2, f_X12_supposes x h (jI p) (jI i) (jI hs) (jI dr) (jI per) (jI sec) (jI age) (jI gone) (jI ah) = some h2 ∧ (∀ a, a ≠ x + 69 → h2.1 a = h.1 a) ∧ h2.2 = h.2 ∧ RF x h2 (fg_ (wd x h) p hs dr per sec gone ah age (i / per) (i % per) (du_ (wd x h) (cd_ (wd x h) p i) (i % per))) := by
  have h1 := I.w1
  have h0 := I.w0
  obtain ⟨-, -, -, -, -, -, p7, p8, -⟩ := I.wp hp
  have hpl := pl_b p7 p8 b3.1 b3.2
  obtain ⟨-, -, -, -, -, n6, n7, n8, n9, n10⟩ := nm_ (per := per) (i := i) (n := wd x h (290 + 81 * p + 2)) b3.1 b3.2 hi.1
  have ni := n10 hi.2
  have o2 := of_2 (x := x) (h := h) (p := p) (by omega)
  have pf := r_pf (h := h) (n := wd x h (290 + 81 * p + 2)) (per := per) p7 p8 b3.1 b3.2
  have dv : jI i / jI per = jI (i / per) := jI_div (by omega) (by omega) (by omega) (by omega)
  have rm : x_rem (jI i) (jI per) = jI (i % per) := jI_rem (by omega) (by omega) (by omega) (by omega)
  have pz : ¬ jI per = 0 := fun e => absurd ((jI_eq (by omega) (by omega) (by omega) (by omega)).mp (show jI per = jI 0 from e)) (by omega)
  generalize hD : du_ (wd x h) (cd_ (wd x h) p i) (i % per) = D
  have F1 : Fr x h (x_i (x_i h (x + 69) 0 (jI sec)) (x + 69) 7 (jI (i % per))) := (Fr.i (by decide)).tr (Fr.i (by decide))
  have cd := sr_card (I.fr F1) (p := p) (by rw [F1.ew]; exact hp) (i := i) (by omega)
  rw [F1.ew] at cd
  have cb := cd_b (wd x h) p i
  have dl := r_dul (x := x) (h := x_i (x_i h (x + 69) 0 (jI sec)) (x + 69) 7 (jI (i % per))) (c := cd_ (wd x h) p i) (r := i % per) cb ⟨n6, by omega⟩
  rw [F1.ew, hD] at dl
  have F2 : Fr x h (x_i (x_i (x_i h (x + 69) 0 (jI sec)) (x + 69) 7 (jI (i % per))) (x + 69) 1 (jI D)) := F1.tr (Fr.i (by decide))
  have o := sr_old (I.fr F2) (p := p) (by rw [F2.ew]; exact hp) (hs := hs) (dr := dr + i / per) (ah := ah) (by omega) (by omega) b5
  rw [F2.ew] at o
  generalize hO : old_ (wd x h) p hs (dr + i / per) ah = O at o
  have F3 : Fr x h (x_i (x_i (x_i (x_i h (x + 69) 0 (jI sec)) (x + 69) 7 (jI (i % per))) (x + 69) 1 (jI D)) (x + 69) 2 (jI O)) := F2.tr (Fr.i (by decide))
  have l := sr_like (I.fr F3) (hs := hs) (dr := dr) (mn := pl_ (wd x h (290 + 81 * p + 2)) per) (pl := i / per) (by rw [F3.ew]; exact b1) b2 b4 ⟨n8, ni⟩
  rw [F3.ew] at l
  generalize hL : like_ (wd x h) hs dr (pl_ (wd x h (290 + 81 * p + 2)) per) (i / per) = Y at l
  generalize hN : pl_ (wd x h (290 + 81 * p + 2)) per = N at l pf hpl ni b4
  generalize hI : i / per = P at *
  have e8 : (if jI P = (0 : Int32) then (1 : Int32) else 0) = jI (if P = 0 then 1 else 0) := by
    by_cases e : P = 0
    · rw [if_pos e, if_pos (by rw [e]; rfl)]; rfl
    · rw [if_neg e, if_neg (show ¬ jI P = (0 : Int32) from fun c => e ((jI_eq (by omega) (by omega) (by omega) (by omega)).mp (show jI P = jI 0 from c)))]; rfl
  have e9 : (if jI P = jI N - 1 then (1 : Int32) else 0) = jI (if P = N - 1 then 1 else 0) := by
    rw [show (1 : Int32) = jI 1 from rfl, jI_sub]
    by_cases e : P = N - 1
    · rw [if_pos e, if_pos (by rw [e])]
    · rw [if_neg e, if_neg (fun c => e ((jI_eq (by omega) (by omega) (by omega) (by omega)).mp c))]; rfl
  have t0 : (0 : Int32).toNatClampNeg = 0 := rfl
  have t1 : (1 : Int32).toNatClampNeg = 1 := rfl
  have t2 : (2 : Int32).toNatClampNeg = 2 := rfl
  have t3 : (3 : Int32).toNatClampNeg = 3 := rfl
  have t4 : (4 : Int32).toNatClampNeg = 4 := rfl
  have t5 : (5 : Int32).toNatClampNeg = 5 := rfl
  have t6 : (6 : Int32).toNatClampNeg = 6 := rfl
  have t7 : (7 : Int32).toNatClampNeg = 7 := rfl
  have t8 : (8 : Int32).toNatClampNeg = 8 := rfl
  have t9 : (9 : Int32).toNatClampNeg = 9 := rfl
  have o2' : f_X12_of x h (jI p) 2 = some (jI (wd x h (290 + 81 * p + 2))) := o2
  refine ⟨x_i (x_i (x_i (x_i (x_i (x_i (x_i (x_i (x_i (x_i h (x + 69) 0 (jI sec)) (x + 69) 7 (jI (i % per))) (x + 69) 1 (jI D)) (x + 69) 2 (jI O)) (x + 69) 3 (jI Y)) (x + 69) 4 (jI age)) (x + 69) 5 (jI gone)) (x + 69) 6 (jI per)) (x + 69) 8 (jI (if P = 0 then 1 else 0))) (x + 69) 9 (jI (if P = N - 1 then 1 else 0)), ?_, fun a ha => ?_, rfl, fun s s0 s1 => ?_⟩
  · unfold f_X12_supposes
    rw [if_neg pz, o2', Option.bind_some, pf, Option.bind_some, if_pos (by decide), xl_, t0, if_neg pz, if_pos (by decide), xl_, t7, rm, cd, Option.bind_some, if_neg pz, dl, Option.bind_some, if_pos (by decide), xl_, t1, dv, jI_add, o, Option.bind_some, if_pos (by decide), xl_, t2, l, Option.bind_some, if_pos (by decide), xl_, t3, if_pos (by decide), xl_, t4, if_pos (by decide), xl_, t5, if_pos (by decide), xl_, t6, if_pos (by decide), xl_, t8, e8, if_pos (by decide), xl_, t9, e9]
  · simp only [gi_n ha]
  · unfold fg_
    rw [hO, hL, hN]
    rcases (show s = 0 ∨ s = 1 ∨ s = 2 ∨ s = 3 ∨ s = 4 ∨ s = 5 ∨ s = 6 ∨ s = 7 ∨ s = 8 ∨ s = 9 by omega) with e | e | e | e | e | e | e | e | e | e <;> subst e <;> simp [gi_]
theorem sr_hold {gh : Nat} {x : Nat} {K : XK} {h : XH} (I : Rv gh x K h) {t : Nat} (ht : (t : Int) < wd x h 2) {G : Int → Int} (hF : RF x h G) (hg : gk_ false G) : ∃ h2, f_X12_held x h (jI (t : Int)) = some (jI (cl_ (tl_ (wd x h) (970 + 851 * t) G)), h2) ∧ (∀ a, a ≠ x + 70 → h2.1 a = h.1 a) ∧ h2.2 = h.2 := by
  have := I.w2
  exact r_held rfl (by omega) (fun q => wd_j x h q) (I.wl ht) (fun s s0 s1 _ => hF s s0 s1) hg
theorem sr_one {gh : Nat} {x : Nat} {K : XK} {h : XH} (I : Rv gh x K h) {p t : Nat} (hp : (p : Int) < wd x h 1) (ht : (t : Int) < wd x h 2) {hs dr per sec gone ah i : Int} {age : Int → Int} (b1 : 0 ≤ hs ∧ hs < wd x h 0) (b2 : 0 ≤ dr) (b3 : 1 ≤ per ∧ per ≤ 3) (b4 : dr + pl_ (wd x h (290 + 81 * p + 2)) per ≤ 20) (b5 : 0 ≤ ah ∧ ah ≤ 10000) (hi : 0 ≤ i ∧ i < wd x h (290 + 81 * p + 2)) (c1 : 0 ≤ sec ∧ sec ≤ 60) (c2 : 0 ≤ gone ∧ gone ≤ 120000) (c3 : 0 ≤ age (i / per) ∧ age (i / per) ≤ 120000) :
    ∃ h1 h2, f_X12_supposes x h (jI p) (jI i) (jI hs) (jI dr) (jI per) (jI sec) (jI (age (i / per))) (jI gone) (jI ah) = some h1 ∧ RF x h1 (fg_ (wd x h) p hs dr per sec gone ah (age (i / per)) (i / per) (i % per) (du_ (wd x h) (cd_ (wd x h) p i) (i % per))) ∧ f_X12_held x h1 (jI (t : Int)) = some (jI (hg_ (wd x h) t p hs dr per sec gone ah age i), h2) ∧ (∀ a, a ≠ x + 69 → h1.1 a = h.1 a) ∧ h1.2 = h.2 ∧ (∀ a, a ≠ x + 69 → a ≠ x + 70 → h2.1 a = h.1 a) ∧ h2.2 = h.2 := by
  obtain ⟨-, -, -, -, -, -, p7, p8, -⟩ := I.wp hp
  have hpl := pl_b p7 p8 b3.1 b3.2
  obtain ⟨-, -, -, -, -, n6, n7, n8, n9, n10⟩ := nm_ (per := per) (i := i) (n := wd x h (290 + 81 * p + 2)) b3.1 b3.2 hi.1
  obtain ⟨h1, g1, g2, g3, g4⟩ := sr_supp I hp (sec := sec) (gone := gone) (age := age (i / per)) b1 b2 b3 b4 b5 hi
  have F : Fr x h h1 := Fr.o1 g2 g3 (by decide)
  have db := sdu_b I (p := p) (i := i) (r := i % per) ⟨n6, by omega⟩
  have gk := sfg_k I (p := p) (hs := hs) (dr := dr) (ah := ah) (pl := i / per) c1 c2 c3 b3 ⟨n6, by omega⟩ db hpl.2
  have hd := sr_hold (I.fr F) (t := t) (by rw [F.ew]; exact ht) g4 gk
  rw [F.ew] at hd
  obtain ⟨h2, k1, k2, k3⟩ := hd
  exact ⟨h1, h2, g1, g4, k1, g2, g3, fun a q1 q2 => by rw [k2 a q2, g2 a q1], by rw [k3, g3]⟩
theorem Rv.put {gh : Nat} {x : Nat} {K : XK} {h : XH} (I : Rv gh x K h) {p : Nat} (hp : (p : Int) < wd x h 1) (hq : 0 < wd x h (290 + 81 * p + 3)) : ∃ tm q, True ∧ PB (wd x h) p (wd x h (290 + 81 * p + 4)) (wd x h (290 + 81 * p + 5)) (wd x h (290 + 81 * p + 6)) (wd x h (290 + 81 * p + 3) - 1) ∧ (0 ≤ wd x h (290 + 81 * p + 7) ∧ wd x h (290 + 81 * p + 7) ≤ 60) ∧ (0 ≤ wd x h (290 + 81 * p + 8) ∧ wd x h (290 + 81 * p + 8) ≤ 1000) ∧ wd x h (290 + 81 * p + 3) ≤ 8 ∧ (wd x h (290 + 81 * p + 5) + pc_ (wd x h) p ≤ 20) ∧ ∀ pl, 0 ≤ pl → pl < pc_ (wd x h) p → wd x h (290 + 81 * p + 9 + pl.toNat) = tm + pl * q ∧ 0 ≤ wd x h (290 + 81 * p + 9 + pl.toNat) ∧ wd x h (290 + 81 * p + 9 + pl.toNat) ≤ wd x h 6 := by
  obtain ⟨a, ⟨h0, b, c⟩, -⟩ := I
  rw [← c] at hp hq ⊢
  obtain ⟨tm, q, -, r⟩ := b.put hp hq
  exact ⟨tm, q, trivial, r⟩
theorem sr_age {gh : Nat} {x : Nat} {K : XK} {h : XH} (I : Rv gh x K h) {p : Nat} (hp : (p : Int) < wd x h 1) (hq : 0 < wd x h (290 + 81 * p + 3)) {i ck : Int} (hi : 0 ≤ i ∧ i < wd x h (290 + 81 * p + 2)) (hc : wd x h 6 ≤ ck ∧ ck ≤ 1199999) : f_X12_ageOf x h (jI p) (jI i) (jI ck) = some (jI (ag_ (wd x h) p ck (i / wd x h (290 + 81 * p + 6)))) ∧ 0 ≤ ag_ (wd x h) p ck (i / wd x h (290 + 81 * p + 6)) ∧ ag_ (wd x h) p ck (i / wd x h (290 + 81 * p + 6)) ≤ 120000 := by
  have h1 := I.w1
  obtain ⟨tm, q, P1, P2, P3, P4, P5, P6, P7⟩ := I.put hp hq
  obtain ⟨-, -, -, b6, b7, -⟩ := id P2
  obtain ⟨-, -, -, -, -, -, p7, p8, -⟩ := I.wp hp
  obtain ⟨-, -, -, -, -, n6, n7, n8, n9, n10⟩ := nm_ (per := wd x h (290 + 81 * p + 6)) (i := i) (n := wd x h (290 + 81 * p + 2)) b6 b7 hi.1
  have ni := n10 hi.2
  have Pi := P7 _ n8 ni
  have ni' : i / wd x h (290 + 81 * p + 6) < pc_ (wd x h) p := ni
  have hd : 0 ≤ wd x h (290 + 81 * p + 5) := P2.2.2.1
  have o6 : f_X12_of x h (jI p) 6 = some (jI (wd x h (290 + 81 * p + 6))) := of_6 (by omega)
  have ot := of_t (x := x) (h := h) (p := p) (k := i / wd x h (290 + 81 * p + 6)) (by omega) (by omega)
  unfold ag_
  refine ⟨?_, by omega, by omega⟩
  unfold f_X12_ageOf
  rw [o6, Option.bind_some, if_neg (j_ne0 (by omega) (by omega) (by omega)), jI_div (by omega) (by omega) (by omega) (by omega), show (9 : Int32) = jI 9 from rfl, jI_add, ot, Option.bind_some, jI_sub, show (10 : Int32) = jI 10 from rfl, jI_div (by omega) (by omega) (by omega) (by omega)]
theorem sr_card1 {gh : Nat} {x : Nat} {K : XK} {h : XH} (I : Rv gh x K h) {p t : Nat} (hp : (p : Int) < wd x h 1) (hq : 0 < wd x h (290 + 81 * p + 3)) (ht : (t : Int) < wd x h 2) {i gone : Int} {age : Int → Int} (hi : 0 ≤ i ∧ i < wd x h (290 + 81 * p + 2)) (c2 : 0 ≤ gone ∧ gone ≤ 120000) (c3 : 0 ≤ age (i / wd x h (290 + 81 * p + 6)) ∧ age (i / wd x h (290 + 81 * p + 6)) ≤ 120000) :
    ∃ h1 h2, f_X12_asks x h (jI p) (jI i) (jI (age (i / wd x h (290 + 81 * p + 6)))) (jI gone) = some h1 ∧ RF x h1 (fg_ (wd x h) p (wd x h (290 + 81 * p + 4)) (wd x h (290 + 81 * p + 5)) (wd x h (290 + 81 * p + 6)) (wd x h (290 + 81 * p + 7)) gone (wd x h (290 + 81 * p + 3)) (age (i / wd x h (290 + 81 * p + 6))) (i / wd x h (290 + 81 * p + 6)) (i % wd x h (290 + 81 * p + 6)) (du_ (wd x h) (cd_ (wd x h) p i) (i % wd x h (290 + 81 * p + 6)))) ∧ f_X12_held x h1 (jI (t : Int)) = some (jI (hg_ (wd x h) t p (wd x h (290 + 81 * p + 4)) (wd x h (290 + 81 * p + 5)) (wd x h (290 + 81 * p + 6)) (wd x h (290 + 81 * p + 7)) gone (wd x h (290 + 81 * p + 3)) age i), h2) ∧ (∀ a, a ≠ x + 69 → h1.1 a = h.1 a) ∧ h1.2 = h.2 ∧ (∀ a, a ≠ x + 69 → a ≠ x + 70 → h2.1 a = h.1 a) ∧ h2.2 = h.2 := by
  have h1 := I.w1
  obtain ⟨tm, q, P1, P2, P3, P4, P5, P6, P7⟩ := I.put hp hq
  obtain ⟨b1, b2, b3, b6, b7, b8, -⟩ := id P2
  obtain ⟨h1, h2, g1, g2, g3, g4, g5, g6, g7⟩ := sr_one I hp ht (sec := wd x h (290 + 81 * p + 7)) (gone := gone) (age := age) ⟨b1, b2⟩ b3 ⟨b6, b7⟩ P6 (ah := wd x h (290 + 81 * p + 3)) (by omega) hi P3 c2 c3
  refine ⟨h1, h2, ?_, g2, g3, g4, g5, g6, g7⟩
  rw [r_asks (by omega), g1, Option.bind_some]
theorem sr_now {gh : Nat} {x : Nat} {K : XK} {h : XH} (I : Rv gh x K h) {p t : Nat} (hp : (p : Int) < wd x h 1) (hq : 0 < wd x h (290 + 81 * p + 3)) (ht : (t : Int) < wd x h 2) {i : Int} (hi : 0 ≤ i ∧ i < wd x h (290 + 81 * p + 2)) :
    ∃ h2, f_X12_heldOf x h (jI t) (jI p) (jI i) = some (jI (hn_ (wd x h) t p (wd x h 6) i), h2) ∧ (∀ a, a ≠ x + 69 → a ≠ x + 70 → h2.1 a = h.1 a) ∧ h2.2 = h.2 := by
  have h1 := I.w1
  have h6 := I.w6
  obtain ⟨tm, q, P1, P2, P3, P4, P5, P6, P7⟩ := I.put hp hq
  obtain ⟨ra, ra1, ra2⟩ := sr_age I hp hq hi (ck := wd x h 6) (by omega)
  obtain ⟨h1, h2, g1, g2, g3, g4, g5, g6, g7⟩ := sr_card1 I hp hq ht hi (gone := wd x h (290 + 81 * p + 8)) (age := ag_ (wd x h) p (wd x h 6)) (by omega) ⟨ra1, ra2⟩
  refine ⟨h2, ?_, g6, g7⟩
  have o8 : f_X12_of x h (jI p) 8 = some (jI (wd x h (290 + 81 * p + 8))) := of_8 (by omega)
  have e6 : h.1 (x + 65) (6 : Int32).toNatClampNeg = jI (wd x h 6) := wd_j _ _ _
  unfold f_X12_heldOf
  rw [if_pos (by decide), e6, ra, Option.bind_some, o8, Option.bind_some, g1, Option.bind_some, g3, Option.bind_some]
  rfl
theorem sr_cw {gh : Nat} {x : Nat} {K : XK} {h : XH} (I : Rv gh x K h) {p : Nat} (hp : (p : Int) < wd x h 1) {pl ro : Int} (h1 : -1 ≤ pl ∧ pl ≤ 60) (h2 : 0 ≤ ro ∧ ro ≤ 3) : f_X12_cardAt x h (jI p) (jI pl) (jI ro) = some (jI (cw_ (wd x h) p pl ro)) := by
  have w1 := I.w1
  obtain ⟨-, -, -, -, -, -, p7, p8, -, -, p11, p12, -⟩ := I.wp hp
  have o6 : f_X12_of x h (jI p) 6 = some (jI (wd x h (290 + 81 * p + 6))) := of_6 (by omega)
  have o2 : f_X12_of x h (jI p) 2 = some (jI (wd x h (290 + 81 * p + 2))) := of_2 (by omega)
  have hm := mp_b p11 p12 h1.1 h1.2
  unfold f_X12_cardAt cw_ f_X12_cardAt_49
  rw [o6, Option.bind_some]
  by_cases c1 : pl < 0
  · rw [if_pos ((jlt0 (by omega) (by omega)).mpr c1), if_pos (Or.inl c1)]; rfl
  · rw [if_neg (fun e => c1 ((jlt0 (by omega) (by omega)).mp e)), Option.bind_some]
    by_cases c2 : wd x h (290 + 81 * p + 6) ≤ ro
    · rw [if_pos ((jI_le (by omega) (by omega) (by omega) (by omega)).mpr c2), if_pos (Or.inr (Or.inl c2))]; rfl
    · rw [if_neg (fun e => c2 ((jI_le (by omega) (by omega) (by omega) (by omega)).mp e)), o2, Option.bind_some, jI_mul, jI_add]
      have h0 := hm.2.2 (by omega)
      by_cases c3 : wd x h (290 + 81 * p + 2) ≤ pl * wd x h (290 + 81 * p + 6) + ro
      · rw [if_pos ((jI_le (by omega) (by omega) (by omega) (by omega)).mpr c3), if_pos (Or.inr (Or.inr c3))]; rfl
      · rw [if_neg (fun e => c3 ((jI_le (by omega) (by omega) (by omega) (by omega)).mp e)), if_neg (by omega), sr_card I hp (by omega), Option.bind_some]
theorem sgo_b {gh : Nat} {x : Nat} {K : XK} {h : XH} (I : Rv gh x K h) {p : Nat} {dr ro : Int} : ∀ n : Nat, (n : Int) ≤ wd x h 1 → 0 ≤ (go_ (wd x h) p dr ro n).1 ∧ (go_ (wd x h) p dr ro n).1 ≤ 8 ∧ -1 ≤ (go_ (wd x h) p dr ro n).2 ∧ (go_ (wd x h) p dr ro n).2 < 52 ∧ ((go_ (wd x h) p dr ro n).1 = 0 ∨ ∃ q, q < n ∧ 0 < wd x h (290 + 81 * q + 3) ∧ (go_ (wd x h) p dr ro n).1 = wd x h (290 + 81 * q + 3)) := by
  have h7 := I.w7
  intro n
  induction n with
  | zero => intro _; exact ⟨show (0 : Int) ≤ 0 by decide, show (0 : Int) ≤ 8 by decide, show (-1 : Int) ≤ -1 by decide, show (-1 : Int) < 52 by decide, Or.inl rfl⟩
  | succ n ih =>
    intro hn
    obtain ⟨i1, i2, i3, i4, i5⟩ := ih (by omega)
    by_cases c : 0 ≤ pa_ (wd x h) n (wd x h (290 + 81 * p + 4)) dr ∧ wd x h (290 + 81 * n + 3) < wd x h (290 + 81 * p + 3) ∧ (go_ (wd x h) p dr ro n).1 < wd x h (290 + 81 * n + 3) ∧ 0 ≤ cw_ (wd x h) n (pa_ (wd x h) n (wd x h (290 + 81 * p + 4)) dr) ro
    · rw [go_y c]
      have hw := (I.wp (q := n) (by omega)).2.2.2.2.2.2.2.2.2.1
      have hc := cw_b (w := wd x h) (p := n) (pl := pa_ (wd x h) n (wd x h (290 + 81 * p + 4)) dr) (ro := ro)
      refine ⟨?_, ?_, hc.1, hc.2, Or.inr ⟨n, by omega, pa_u c.1, rfl⟩⟩
      · show 0 ≤ wd x h (290 + 81 * n + 3); omega
      · show wd x h (290 + 81 * n + 3) ≤ 8; omega
    · rw [go_n c]
      refine ⟨i1, i2, i3, i4, ?_⟩
      rcases i5 with e | ⟨q, e1, e2, e3⟩
      · exact Or.inl e
      · exact Or.inr ⟨q, by omega, e2, e3⟩
theorem sr_gho {gh : Nat} {x : Nat} {K : XK} {h : XH} (I : Rv gh x K h) {p : Nat} (hp : (p : Int) < wd x h 1) (hq : 0 < wd x h (290 + 81 * p + 3)) {pl ro : Int} (h1 : 0 ≤ pl ∧ pl ≤ 60) (h2 : 0 ≤ ro ∧ ro ≤ 3) : f_X12_ghostOf x h (jI p) (jI pl) (jI ro) = some (jI (go_ (wd x h) p (wd x h (290 + 81 * p + 5) + pl) ro (wd x h 1).toNat).2) := by
  have w1 := I.w1
  have w0 := I.w0
  have w7 := I.w7
  obtain ⟨tm, q, P1, P2, P3, P4, P5, P6, P7⟩ := I.put hp hq
  obtain ⟨b1, b2, b3, -⟩ := id P2
  have pcb := spc_b I hp
  have e1 : h.1 (x + 65) (1 : Int32).toNatClampNeg = jI (wd x h 1) := wd_j _ _ _
  have o5 : f_X12_of x h (jI p) 5 = some (jI (wd x h (290 + 81 * p + 5))) := of_5 (by omega)
  have o4 : f_X12_of x h (jI p) 4 = some (jI (wd x h (290 + 81 * p + 4))) := of_4 (by omega)
  have o3 : f_X12_of x h (jI p) 3 = some (jI (wd x h (290 + 81 * p + 3))) := of_3 (by omega)
  unfold f_X12_ghostOf
  rw [o5, Option.bind_some, jI_add]
  generalize hdr : wd x h (290 + 81 * p + 5) + pl = dr
  have hd : 0 ≤ dr ∧ dr ≤ 100 := by omega
  refine x_up0 (P := fun m n => f_X12_ghostOf_19 x h m (jI p) (jI ro) (jI dr) (jI (go_ (wd x h) p dr ro n).2) (jI (go_ (wd x h) p dr ro n).1) (jI (n : Int)) = some (jI (go_ (wd x h) p dr ro (wd x h 1).toNat).2)) (wd x h 1).toNat (by omega) (fun m => by
    unfold f_X12_ghostOf_19
    rw [if_pos (by decide), e1, if_pos ((jI_le (by omega) (by omega) (by omega) (by omega)).mpr (by omega))]) (fun m n hn ih => by
    have gb := sgo_b I (p := p) (dr := dr) (ro := ro) n (by omega)
    have hn1 : (n : Int) < wd x h 1 := by omega
    have pa := sr_pat I hn1 (hs := wd x h (290 + 81 * p + 4)) (dr := dr) (by omega) hd
    have pb := spa_b I hn1 (hs := wd x h (290 + 81 * p + 4)) (dr := dr)
    have hw := (I.wp hn1).2.2.2.2.2.2.2.2
    have o3n : f_X12_of x h (jI n) 3 = some (jI (wd x h (290 + 81 * n + 3))) := of_3 (by omega)
    have a1 : jI (n : Int) + 1 = jI ((n + 1 : Nat) : Int) := by
      rw [show (1 : Int32) = jI 1 from rfl, jI_add]
      rfl
    unfold f_X12_ghostOf_19 f_X12_ghostOf_114
    rw [if_pos (by decide), e1, if_neg (fun e => absurd ((jI_le (by omega) (by omega) (by omega) (by omega)).mp e) (by omega)), o4, Option.bind_some, pa, Option.bind_some, a1]
    by_cases c1 : pa_ (wd x h) n (wd x h (290 + 81 * p + 4)) dr = -1
    · rw [if_pos ((jlt0 (by omega) (by omega)).mpr (by omega))]
      rw [go_n (by omega)] at ih
      exact ih
    · have un := pa_u (w := wd x h) (q := n) (hs := wd x h (290 + 81 * p + 4)) (dr := dr) (by omega)
      have cc := sr_cw I hn1 (pl := pa_ (wd x h) n (wd x h (290 + 81 * p + 4)) dr) (ro := ro) (by omega) h2
      have cb := cw_b (w := wd x h) (p := n) (pl := pa_ (wd x h) n (wd x h (290 + 81 * p + 4)) dr) (ro := ro)
      rw [if_neg (fun e => absurd ((jlt0 (by omega) (by omega)).mp e) (by omega)), o3n, Option.bind_some, o3, Option.bind_some]
      by_cases c2 : wd x h (290 + 81 * n + 3) < wd x h (290 + 81 * p + 3)
      · rw [if_neg (fun e => absurd ((jI_le (by omega) (by omega) (by omega) (by omega)).mp e) (by omega)), Option.bind_some]
        by_cases c3 : (go_ (wd x h) p dr ro n).1 < wd x h (290 + 81 * n + 3)
        · rw [if_neg (fun e => absurd ((jI_lt (by omega) (by omega) (by omega) (by omega)).mp e) (by omega)), cc, Option.bind_some]
          by_cases c4 : 0 ≤ cw_ (wd x h) n (pa_ (wd x h) n (wd x h (290 + 81 * p + 4)) dr) ro
          · rw [if_pos ((jge0 (by omega) (by omega)).mpr c4), Option.bind_some, Option.bind_some]
            rw [go_y ⟨by omega, c2, c3, c4⟩] at ih
            exact ih
          · rw [if_neg (fun e => c4 ((jge0 (by omega) (by omega)).mp e))]
            rw [go_n (fun q => c4 q.2.2.2)] at ih
            exact ih
        · have lt : wd x h (290 + 81 * n + 3) < (go_ (wd x h) p dr ro n).1 := by
            rcases gb.2.2.2.2 with e | ⟨q, e1, e2, e3⟩
            · omega
            · have ne : wd x h (293 + 81 * q) ≠ wd x h (293 + 81 * n) := fun e => by
                have := I.1.2.2.2.2.1.1 q n (by omega) hn1 (by rw [show 293 + 81 * q = 290 + 81 * q + 3 by omega]; exact e2) e
                omega
              rw [show 293 + 81 * q = 290 + 81 * q + 3 by omega, show 293 + 81 * n = 290 + 81 * n + 3 by omega] at ne
              omega
          rw [if_pos ((jI_lt (by omega) (by omega) (by omega) (by omega)).mpr lt)]
          rw [go_n (fun q => c3 q.2.2.1)] at ih
          exact ih
      · rw [if_pos ((jI_le (by omega) (by omega) (by omega) (by omega)).mpr (by omega))]
        rw [go_n (fun q => c2 q.2.1)] at ih
        exact ih)
theorem sr_ali {gh : Nat} {x : Nat} {K : XK} {h : XH} (I : Rv gh x K h) {p : Nat} (hp : (p : Int) < wd x h 1) (hq : 0 < wd x h (290 + 81 * p + 3)) {pl ro : Int} (h1 : 0 ≤ pl ∧ pl < pc_ (wd x h) p) (h2 : 0 ≤ ro ∧ ro ≤ 3) : f_X12_alikeOf x h (jI p) (jI pl) (jI ro) = some (jI (al_ (wd x h) p pl ro (pc_ (wd x h) p).toNat 0)) := by
  have w1 := I.w1
  have w0 := I.w0
  obtain ⟨tm, q, P1, P2, P3, P4, P5, P6, P7⟩ := I.put hp hq
  obtain ⟨b1, b2, b3, b6, b7, b8, -⟩ := id P2
  have pcb := spc_b I hp
  have rp := sr_places I hp
  have o5 : f_X12_of x h (jI p) 5 = some (jI (wd x h (290 + 81 * p + 5))) := of_5 (by omega)
  have o4 : f_X12_of x h (jI p) 4 = some (jI (wd x h (290 + 81 * p + 4))) := of_4 (by omega)
  have lk0 := sr_look I ⟨b1, b2⟩ (d := wd x h (290 + 81 * p + 5) + pl) (by omega)
  have lb := fun d (h1 : 0 ≤ d) (h2 : d < 20) => I.1.2.2.1.lk ⟨b1, b2⟩ (d := d) ⟨h1, h2⟩
  have lb0 := lb (wd x h (290 + 81 * p + 5) + pl) (by omega) (by omega)
  unfold f_X12_alikeOf
  rw [o4, Option.bind_some, o5, Option.bind_some]
  have key := x_up0 (P := fun m k => f_X12_alikeOf_19 x h m (jI p) (jI pl) (jI ro) (jI (wd x h (290 + 81 * p + 4))) (jI (wd x h (290 + 81 * p + 5))) (jI (k : Int)) = some (jI (al_ (wd x h) p pl ro ((pc_ (wd x h) p).toNat - k) k))) (pc_ (wd x h) p).toNat (by omega) (fun m => by
    unfold f_X12_alikeOf_19
    rw [rp, Option.bind_some, if_pos ((jI_le (by omega) (by omega) (by omega) (by omega)).mpr (by omega)), Nat.sub_self]
    rfl) (fun m k hk ih => by
    have a1 : jI (k : Int) + 1 = jI ((k + 1 : Nat) : Int) := by
      rw [show (1 : Int32) = jI 1 from rfl, jI_add]
      rfl
    have lkk := sr_look I ⟨b1, b2⟩ (d := wd x h (290 + 81 * p + 5) + k) (by omega)
    have lbk := lb (wd x h (290 + 81 * p + 5) + k) (by omega) (by omega)
    have cc := sr_cw I hp (pl := (k : Int)) (ro := ro) (by omega) h2
    have cb := cw_b (w := wd x h) (p := p) (pl := (k : Int)) (ro := ro)
    rw [show (pc_ (wd x h) p).toNat - k = (pc_ (wd x h) p).toNat - (k + 1) + 1 by omega]
    unfold f_X12_alikeOf_19 f_X12_alikeOf_79 al_
    rw [rp, Option.bind_some, if_neg (fun e => absurd ((jI_le (by omega) (by omega) (by omega) (by omega)).mp e) (by omega)), a1]
    by_cases c1 : (k : Int) = pl
    · rw [if_pos (by rw [c1]), if_neg (fun q => q.1 c1)]
      exact ih
    · rw [if_neg (fun e => c1 ((jI_eq (by omega) (by omega) (by omega) (by omega)).mp e)), jI_add, jI_add, lkk, Option.bind_some, lk0, Option.bind_some]
      by_cases c2 : lk_ (wd x h) (wd x h (290 + 81 * p + 4)) (wd x h (290 + 81 * p + 5) + k) = lk_ (wd x h) (wd x h (290 + 81 * p + 4)) (wd x h (290 + 81 * p + 5) + pl)
      · rw [if_pos (by rw [c2]), cc, Option.bind_some]
        by_cases c3 : 0 ≤ cw_ (wd x h) p k ro
        · rw [if_neg (fun e => absurd ((jlt0 (by omega) (by omega)).mp e) (by omega)), Option.bind_some, if_pos ⟨c1, c2, c3⟩]
        · rw [if_pos ((jlt0 (by omega) (by omega)).mpr (by omega)), if_neg (fun q => c3 q.2.2)]
          exact ih
      · rw [if_neg (fun e => c2 ((jI_eq (by omega) (by omega) (by omega) (by omega)).mp e)), if_neg (fun q => c2 q.2.1)]
        exact ih)
  exact key
theorem ssl_b {gh : Nat} {x : Nat} {K : XK} {h : XH} (I : Rv gh x K h) {p : Nat} {i k : Int} : -1 ≤ sl_ (wd x h) p i k ∧ sl_ (wd x h) p i k < 52 := by
  have w1 := I.w1
  have := sgo_b I (p := p) (dr := wd x h (290 + 81 * p + 5) + i / wd x h (290 + 81 * p + 6)) (ro := i % wd x h (290 + 81 * p + 6)) (wd x h 1).toNat (by omega)
  unfold sl_
  split
  · exact ⟨this.2.2.1, this.2.2.2.1⟩
  · split
    · exact al_b _ _
    · split
      · exact sp_b
      · exact sf_b
theorem sr_slip {gh : Nat} {x : Nat} {K : XK} {h : XH} (I : Rv gh x K h) {p : Nat} (hp : (p : Int) < wd x h 1) (hq : 0 < wd x h (290 + 81 * p + 3)) {i k : Int} (hi : 0 ≤ i ∧ i < wd x h (290 + 81 * p + 2)) (hk : 2 ≤ k ∧ k ≤ 5) : f_X12_slip x h (jI p) (jI i) (jI k) = some (jI (sl_ (wd x h) p i k)) := by
  have w1 := I.w1
  obtain ⟨tm, q, P1, P2, P3, P4, P5, P6, P7⟩ := I.put hp hq
  obtain ⟨b1, b2, b3, b6, b7, b8, -⟩ := id P2
  obtain ⟨-, -, -, -, -, -, p7, p8, -⟩ := I.wp hp
  have pcb := spc_b I hp
  obtain ⟨-, -, -, -, -, n6, n7, n8, n9, n10⟩ := nm_ (per := wd x h (290 + 81 * p + 6)) (i := i) (n := wd x h (290 + 81 * p + 2)) b6 b7 hi.1
  have ni : i / wd x h (290 + 81 * p + 6) < pc_ (wd x h) p := n10 hi.2
  have o6 : f_X12_of x h (jI p) 6 = some (jI (wd x h (290 + 81 * p + 6))) := of_6 (by omega)
  have dv : jI i / jI (wd x h (290 + 81 * p + 6)) = jI (i / wd x h (290 + 81 * p + 6)) := jI_div (by omega) (by omega) (by omega) (by omega)
  have rm : x_rem (jI i) (jI (wd x h (290 + 81 * p + 6))) = jI (i % wd x h (290 + 81 * p + 6)) := jI_rem (by omega) (by omega) (by omega) (by omega)
  have nz := j_ne0 (z := wd x h (290 + 81 * p + 6)) (by omega) (by omega) (by omega)
  have ne : ∀ c : Int, 0 ≤ c → c ≤ 5 → k ≠ c → ¬ jI k = jI c := fun c c0 c1 c2 e => c2 ((jI_eq (by omega) (by omega) (by omega) (by omega)).mp e)
  unfold f_X12_slip
  rw [o6, Option.bind_some, if_neg nz, if_neg nz, dv, rm]
  generalize hQ : i / wd x h (290 + 81 * p + 6) = Q at *
  generalize hR : i % wd x h (290 + 81 * p + 6) = R at *
  unfold sl_
  rw [hQ, hR]
  by_cases k2 : k = 2
  · rw [if_pos (show jI k = (2 : Int32) by rw [k2]; rfl), if_pos k2, sr_gho I hp hq (by omega) (by omega), Option.bind_some]
  · rw [if_neg (show ¬ jI k = (2 : Int32) from ne 2 (by omega) (by omega) k2), if_neg k2]
    by_cases k3 : k = 3
    · rw [if_pos (show jI k = (3 : Int32) by rw [k3]; rfl), if_pos k3, sr_ali I hp hq ⟨n8, ni⟩ (by omega), Option.bind_some]
    · rw [if_neg (show ¬ jI k = (3 : Int32) from ne 3 (by omega) (by omega) k3), if_neg k3]
      by_cases k4 : k = 4
      · rw [if_pos (show jI k = (4 : Int32) by rw [k4]; rfl), if_pos k4, show (1 : Int32) = jI 1 from rfl, jI_add, sr_cw I hp (by omega) (by omega), Option.bind_some, xl_]
        have cb := cw_b (w := wd x h) (p := p) (pl := Q) (ro := R + 1)
        unfold sp_
        by_cases e : 0 ≤ cw_ (wd x h) p Q (R + 1)
        · rw [if_neg (fun q => absurd ((jlt0 (by omega) (by omega)).mp q) (by omega)), if_pos e, if_neg (show ¬ jI (R + 1) = jI R from fun q => absurd ((jI_eq (by omega) (by omega) (by omega) (by omega)).mp q) (by omega)), sr_cw I hp (by omega) (by omega), Option.bind_some, if_neg (show ¬ R + 1 = R by omega)]
        · rw [if_pos ((jlt0 (by omega) (by omega)).mpr (by omega)), if_neg e]
          by_cases e2 : R = 0
          · rw [if_pos (show (0 : Int32) = jI R by rw [e2]; rfl), if_pos (by omega)]
            rfl
          · rw [if_neg (show ¬ (0 : Int32) = jI R from fun q => e2 ((jI_eq (a := 0) (by omega) (by omega) (by omega) (by omega)).mp q).symm), if_neg (by omega), show (0 : Int32) = jI 0 from rfl, sr_cw I hp (by omega) (by omega), Option.bind_some]
      · rw [if_neg (show ¬ jI k = (4 : Int32) from ne 4 (by omega) (by omega) k4), if_neg k4, show (1 : Int32) = jI 1 from rfl, jI_add, sr_cw I hp (by omega) (by omega), Option.bind_some]
        have cb := cw_b (w := wd x h) (p := p) (pl := Q + 1) (ro := R)
        unfold sf_
        by_cases e : 0 ≤ cw_ (wd x h) p (Q + 1) R
        · rw [if_neg (fun q => absurd ((jlt0 (by omega) (by omega)).mp q) (by omega)), Option.bind_some, if_pos e]
        · rw [if_pos ((jlt0 (by omega) (by omega)).mpr (by omega)), jI_sub, sr_cw I hp (by omega) (by omega), Option.bind_some, if_neg e]
theorem sr_kind {gh : Nat} {x : Nat} {K : XK} {h : XH} (I : Rv gh x K h) {p : Nat} (hp : (p : Int) < wd x h 1) (hq : 0 < wd x h (290 + 81 * p + 3)) {i : Int} (hi : 0 ≤ i ∧ i < wd x h (290 + 81 * p + 2)) : f_X12_kindOf x h (jI p) (jI i) = some (jI (kd_ (wd x h) p i)) := by
  have w1 := I.w1
  obtain ⟨-, -, -, -, -, -, p7, p8, -, -, -, -, p13, -⟩ := I.wp hp
  have sb := p13 i.toNat (by omega)
  have cc := sr_card I hp (i := i) (by omega)
  have cb := cd_b (wd x h) p i
  have os := of_s (x := x) (h := h) (p := p) (i := i.toNat) (by omega) (by omega)
  rw [Int.toNat_of_nonneg hi.1] at os
  unfold f_X12_kindOf
  rw [show (29 : Int32) = jI 29 from rfl, jI_add, os, Option.bind_some, cc, Option.bind_some]
  unfold kd_
  by_cases c1 : wd x h (290 + 81 * p + 29 + i.toNat) = cd_ (wd x h) p i
  · rw [if_pos (by rw [c1]), if_pos c1]; rfl
  · rw [if_neg (fun e => c1 ((jI_eq (by omega) (by omega) (by omega) (by omega)).mp e)), if_neg c1]
    by_cases c2 : wd x h (290 + 81 * p + 29 + i.toNat) < 0
    · rw [if_neg (fun e => absurd ((jge0 (by omega) (by omega)).mp e) (by omega)), if_pos c2]; rfl
    · rw [if_pos ((jge0 (by omega) (by omega)).mpr (by omega)), if_neg c2]
      refine x_up0 (P := fun m n => f_X12_kindOf_31 x h m (jI p) (jI i) (jI (wd x h (290 + 81 * p + 29 + i.toNat))) (jI ((n : Int) + 2)) = some (jI (kf_ (sl_ (wd x h) p i) (wd x h (290 + 81 * p + 29 + i.toNat)) (4 - n) ((n : Int) + 2)))) 4 (by omega) (fun m => by
        unfold f_X12_kindOf_31
        rw [if_pos (by decide)]
        rfl) (fun m n hn ih => by
        have sb2 := ssl_b I (p := p) (i := i) (k := (n : Int) + 2)
        unfold f_X12_kindOf_31
        rw [if_neg (show ¬ (6 : Int32) ≤ jI ((n : Int) + 2) from fun e => absurd ((jI_le (a := 6) (by omega) (by omega) (by omega) (by omega)).mp e) (by omega)), sr_slip I hp hq hi (by omega), Option.bind_some, show 4 - n = 4 - (n + 1) + 1 by omega]
        unfold kf_
        by_cases c3 : sl_ (wd x h) p i ((n : Int) + 2) = wd x h (290 + 81 * p + 29 + i.toNat)
        · rw [if_pos (by rw [c3]), if_pos c3]
        · rw [if_neg (fun e => c3 ((jI_eq (by omega) (by omega) (by omega) (by omega)).mp e)), if_neg c3, show (1 : Int32) = jI 1 from rfl, jI_add]
          rw [show ((n + 1 : Nat) : Int) + 2 = (n : Int) + 2 + 1 by omega] at ih
          exact ih)
theorem sr_kns {gh : Nat} {x : Nat} {K : XK} {h : XH} (I : Rv gh x K h) {p : Nat} (hp : (p : Int) < wd x h 1) (hq : 0 < wd x h (290 + 81 * p + 3)) {k : Int} (hk : 0 ≤ k ∧ k ≤ 6) : f_X12_kindsOf x h (jI p) (jI k) = some (jI (kn_ (wd x h) p k (wd x h (290 + 81 * p + 2)).toNat)) := by
  have w1 := I.w1
  obtain ⟨-, -, -, -, -, -, p7, p8, -⟩ := I.wp hp
  have o2 : f_X12_of x h (jI p) 2 = some (jI (wd x h (290 + 81 * p + 2))) := of_2 (by omega)
  refine x_up0 (P := fun m n => f_X12_kindsOf_5 x h m (jI p) (jI k) (jI (kn_ (wd x h) p k n)) (jI (n : Int)) = some (jI (kn_ (wd x h) p k (wd x h (290 + 81 * p + 2)).toNat))) (wd x h (290 + 81 * p + 2)).toNat (by omega) (fun m => by
    unfold f_X12_kindsOf_5
    rw [o2, Option.bind_some, if_pos ((jI_le (by omega) (by omega) (by omega) (by omega)).mpr (by omega))]) (fun m n hn ih => by
    have a1 : jI (n : Int) + 1 = jI ((n + 1 : Nat) : Int) := by
      rw [show (1 : Int32) = jI 1 from rfl, jI_add]
      rfl
    have kb := kd_b (w := wd x h) (p := p) (i := (n : Int))
    unfold f_X12_kindsOf_5
    rw [o2, Option.bind_some, if_neg (fun e => absurd ((jI_le (by omega) (by omega) (by omega) (by omega)).mp e) (by omega)), sr_kind I hp hq (by omega), Option.bind_some, xl_, a1]
    have e : jI (kn_ (wd x h) p k n) + (if jI (kd_ (wd x h) p n) = jI k then (1 : Int32) else 0) = jI (kn_ (wd x h) p k (n + 1)) := by
      unfold kn_
      rw [sm_s, ← jI_add]
      congr 1
      by_cases c : kd_ (wd x h) p n = k
      · rw [if_pos (by rw [c]), if_pos c]; rfl
      · rw [if_neg (fun e => c ((jI_eq (by omega) (by omega) (by omega) (by omega)).mp e)), if_neg c]; rfl
    rw [e]
    exact ih)
