/-! ===== the component's cells beside any world ===== -/
def Cv (gh : Nat) (x : Nat) (K : XK) (h : XH) (w : Nat → Int) : Prop := WI gh w ∧ CSt x K h (x + 9) w ∧ True
theorem Inv.cv {gh : Nat} {x : Nat} {K : XK} {h : XH} (I : Inv gh x K h) : Cv gh x K h (wd x h) := ⟨I.1, I.2.1, trivial⟩
theorem Cv.fr {gh : Nat} {x : Nat} {K : XK} {h h' : XH} {w : Nat → Int} (I : Cv gh x K h w) (f : Fr x h h') : Cv gh x K h' w := by
  obtain ⟨hW, hS, -⟩ := I
  have far : ∀ a, x + 77 ≤ a → h'.1 a = h.1 a := fun a ha => f.far ha
  have near : ∀ j, 9 ≤ j → j < 43 → h'.1 (x + j) = h.1 (x + j) := fun j h1 h2 => by
    funext k
    refine f.at ⟨fun hj => ?_, by omega, by omega⟩
    have : ∀ j ∈ sc_, j < 9 ∨ 43 ≤ j := by decide
    have := this j hj
    omega
  exact ⟨hW, hS.c hW (fun _ _ _ _ _ _ => rfl) (fun r h1 _ a h2 _ => far a (by omega)) (fun a h1 h2 => by rw [show a = x + (a - x) by omega]; exact near (a - x) (by omega) (by omega)) (by rw [f.2.2.2.2.2.2]) (by rw [f.2.2.2.2.2.2]) (fun _ _ => rfl), trivial⟩
theorem Cv.pk {gh : Nat} {x : Nat} {K : XK} {h : XH} {w : Nat → Int} (I : Cv gh x K h w) {q : Nat} (hq : (q : Int) < w 1) : CPk h (x + 13 + 6 + 3 * q) w (290 + 81 * q) := by
  rw [show x + 13 + 6 + 3 * q = x + 9 + 10 + 3 * q by omega]
  exact I.2.1.2.2.2.1 q hq
theorem Cv.wp {gh : Nat} {x : Nat} {K : XK} {h : XH} {w : Nat → Int} (I : Cv gh x K h w) {q : Nat} (hq : (q : Int) < w 1) : WPk w (290 + 81 * q) := I.1.2.2.2.1 q hq
theorem Cv.w1 {gh : Nat} {x : Nat} {K : XK} {h : XH} {w : Nat → Int} (I : Cv gh x K h w) : 0 ≤ w 1 ∧ w 1 ≤ 8 := ⟨I.1.1.2.2.1, I.1.1.2.2.2.1⟩
theorem Cv.w0 {gh : Nat} {x : Nat} {K : XK} {h : XH} {w : Nat → Int} (I : Cv gh x K h w) : 0 ≤ w 0 ∧ w 0 ≤ 6 := ⟨I.1.1.1, I.1.1.2.1⟩
theorem Cv.dr {gh : Nat} {x : Nat} {K : XK} {h : XH} {w : Nat → Int} (I : Cv gh x K h w) {j : Int} (hj : 0 ≤ j ∧ j < w 0) : 1 ≤ w (164 + 21 * j.toNat) ∧ w (164 + 21 * j.toNat) ≤ 20 := by
  have := I.1.2.2.1 j.toNat (by omega)
  exact ⟨this.1, this.2.1⟩
theorem vc_card {gh : Nat} {x : Nat} {K : XK} {h : XH} {w : Nat → Int} (I : Cv gh x K h w) {p : Nat} (hp : (p : Int) < w 1) {i : Int} (hi : 0 ≤ i ∧ i ≤ 60) : f_X2_cardAt (x + 13 + 6 + 3 * p) h (jI i) = jI (cd_ w p i) := by
  have h1 := I.w1
  obtain ⟨p1, p2, p3, p4, -⟩ := I.wp hp
  obtain ⟨q1, q2, -⟩ := I.pk hp
  have hm := i_st hi.1 hi.2 (show 0 ≤ w (290 + 81 * p + 1) by omega) (by omega)
  simp (disch := omega) only [f_X2_cardAt, q1, q2, jL, jJ, jI_lt, jI_le, jI_eq, jI_nat, jBt, jBo, x_let, if_pos, if_neg, if_true, Option.bind_some, wd_j, and_self, true_and, and_true, Int.toNat_zero, Int.toNat_natCast, isb0, isb1, jI_rem, cd_]
theorem vc_pby {gh : Nat} {x : Nat} {K : XK} {h : XH} {w : Nat → Int} (I : Cv gh x K h w) {p : Nat} (hp : (p : Int) < w 1) {per : Int} (h3 : 1 ≤ per) (h4 : per ≤ 3) : f_X2_placesBy (x + 13 + 6 + 3 * p) h (jI per) = some (jI (pl_ (w (290 + 81 * p + 2)) per)) := by
  obtain ⟨-, -, -, -, -, -, p7, p8, -⟩ := I.wp hp
  obtain ⟨-, -, q3, -⟩ := I.pk hp
  simp (disch := omega) only [f_X2_placesBy, q3, jL, jJ, jI_lt, jI_le, jI_eq, jI_nat, jBt, jBo, x_let, if_pos, if_neg, if_true, Option.bind_some, wd_j, and_self, true_and, and_true, Int.toNat_zero, Int.toNat_natCast, isb0, isb1, pl_c]
theorem vpc_b {gh : Nat} {x : Nat} {K : XK} {h : XH} {w : Nat → Int} (I : Cv gh x K h w) {p : Nat} (hp : (p : Int) < w 1) : 1 ≤ pc_ w p ∧ pc_ w p ≤ 52 := by
  obtain ⟨-, -, -, -, -, -, p7, p8, -, -, p11, p12, -⟩ := I.wp hp
  exact pl_b p7 p8 p11 p12
theorem vc_pat {gh : Nat} {x : Nat} {K : XK} {h : XH} {w : Nat → Int} (I : Cv gh x K h w) {p : Nat} (hp : (p : Int) < w 1) {hs dr : Int} (hh : 0 ≤ hs ∧ hs ≤ 100) (hd : 0 ≤ dr ∧ dr ≤ 100) : f_X2_placeAt (x + 13 + 6 + 3 * p) h (jI hs) (jI dr) = some (jI (pa_ w p hs dr)) := by
  have h1 := I.w1
  have h0 := I.w0
  have hb := vpc_b I hp
  obtain ⟨p1, p2, p3, p4, p5, p6, p7, p8, p9, p10, p11, p12, p13, p14⟩ := I.wp hp
  obtain ⟨q1, q2, q3, q4, q5, q6⟩ := I.pk hp
  by_cases c : 0 < w (290 + 81 * p + 3)
  · obtain ⟨u1, u2, u3, u4, -⟩ := p14 c
    obtain ⟨d1, d2, d3, -⟩ := q6 c
    have := I.dr ⟨u1, u2⟩
    have hl := vc_pby I hp p11 p12
    have hb2 : pl_ (w (290 + 81 * p + 2)) (w (290 + 81 * p + 6)) = pc_ w p := rfl
    rw [hb2] at u4 hl
    rw [if_pos c] at q4
    unfold pa_
    by_cases c2 : w (290 + 81 * p + 4) = hs
    · by_cases c3 : dr - w (290 + 81 * p + 5) < 0
      · simp (disch := omega) only [f_X2_placeAt, f_X2_placeAt_51, q4, d1, d2, d3, jL, jJ, jI_lt, jI_le, jI_eq, jI_nat, jBt, jBo, x_let, if_pos, if_neg, if_true, Option.bind_some, wd_j, and_self, true_and, and_true, Int.toNat_zero, Int.toNat_natCast, isb0, isb1, hl, m1_]
      · by_cases c4 : dr - w (290 + 81 * p + 5) < pc_ w p
        · simp (disch := omega) only [f_X2_placeAt, f_X2_placeAt_51, q4, d1, d2, d3, jL, jJ, jI_lt, jI_le, jI_eq, jI_nat, jBt, jBo, x_let, if_pos, if_neg, if_true, Option.bind_some, wd_j, and_self, true_and, and_true, Int.toNat_zero, Int.toNat_natCast, isb0, isb1, hl, m1_]
        · simp (disch := omega) only [f_X2_placeAt, f_X2_placeAt_51, q4, d1, d2, d3, jL, jJ, jI_lt, jI_le, jI_eq, jI_nat, jBt, jBo, x_let, if_pos, if_neg, if_true, Option.bind_some, wd_j, and_self, true_and, and_true, Int.toNat_zero, Int.toNat_natCast, isb0, isb1, hl, m1_]
    · simp (disch := omega) only [f_X2_placeAt, f_X2_placeAt_51, q4, d1, d2, d3, jL, jJ, jI_lt, jI_le, jI_eq, jI_nat, jBt, jBo, x_let, if_pos, if_neg, if_true, Option.bind_some, wd_j, and_self, true_and, and_true, Int.toNat_zero, Int.toNat_natCast, isb0, isb1, hl, m1_]
  · rw [if_neg c] at q4
    unfold pa_
    simp (disch := omega) only [f_X2_placeAt, f_X2_placeAt_51, q4, jL, jJ, jI_lt, jI_le, jI_eq, jI_nat, jBt, jBo, x_let, if_pos, if_neg, if_true, Option.bind_some, wd_j, and_self, true_and, and_true, Int.toNat_zero, Int.toNat_natCast, isb0, isb1, m1_]
theorem vpa_b {gh : Nat} {x : Nat} {K : XK} {h : XH} {w : Nat → Int} (I : Cv gh x K h w) {p : Nat} (hp : (p : Int) < w 1) {hs dr : Int} : -1 ≤ pa_ w p hs dr ∧ pa_ w p hs dr < 52 := by
  have hb := vpc_b I hp
  unfold pa_
  split <;> omega
theorem vold_b {gh : Nat} {x : Nat} {K : XK} {h : XH} {w : Nat → Int} (I : Cv gh x K h w) {n p : Nat} {hs dr ah : Int} (hn : n ≤ 8) : 0 ≤ sm_ n (fun q => if q ≠ p ∧ w (290 + 81 * q + 3) < ah ∧ 0 ≤ pa_ w q hs dr then 1 else 0) ∧ sm_ n (fun q => if q ≠ p ∧ w (290 + 81 * q + 3) < ah ∧ 0 ≤ pa_ w q hs dr then 1 else 0) ≤ 8 := by
  have := sm_b (n := n) (f := fun q => if q ≠ p ∧ w (290 + 81 * q + 3) < ah ∧ 0 ≤ pa_ w q hs dr then 1 else 0) (lo := 0) (hi := 1) (fun i hi => by split <;> omega)
  omega
theorem vc_old {gh : Nat} {x : Nat} {K : XK} {h : XH} {w : Nat → Int} (I : Cv gh x K h w) {p : Nat} (hp : (p : Int) < w 1) {v2 : Nat} {hs dr od : Int} (h0 : h.1 v2 0 = jI hs) (h7 : h.1 v2 7 = jI od) (hh : 0 ≤ hs ∧ hs ≤ 100) (hd : 0 ≤ dr ∧ dr ≤ 100) (ho : 0 ≤ od ∧ od ≤ 10000) : f_X5_oldAt x h (jI (p : Int)) v2 (jI dr) = some (jI (old_ w p hs dr (od + 1))) := by
  have h1 := I.w1
  obtain ⟨⟨e1, e4, e6, e7, e8, e10, e12, e15⟩, -⟩ := id I.2.1
  have h77 := I.1.1.2.2.2.2.2.2.2.2.2.2.2.2.2.2.2
  generalize hN : (w 1).toNat = N
  generalize hf : (fun q : Nat => if q ≠ p ∧ w (290 + 81 * q + 3) < od + 1 ∧ 0 ≤ pa_ w q hs dr then (1 : Int) else 0) = f
  have hb : ∀ n, n ≤ 8 → 0 ≤ sm_ n f ∧ sm_ n f ≤ 8 := fun n hn => by rw [← hf]; exact vold_b I hn
  have key := x_up0 (P := fun m i => f_X5_oldAt_6 x h m (jI (p : Int)) v2 (jI dr) (jI (sm_ i f)) (jI (i : Int)) = some (jI (sm_ N f))) N (by omega) (fun m => by
    simp (disch := omega) only [f_X5_oldAt_6, e4, jL, jJ, jI_lt, jI_le, jI_eq, jI_nat, jBt, jBo, x_let, if_pos, if_neg, if_true, Option.bind_some, wd_j, and_self, true_and, and_true, Int.toNat_zero, Int.toNat_natCast, isb0, isb1]) (fun m i hi ih => by
    have hi1 : (i : Int) < w 1 := by omega
    have hbi := hb i (by omega)
    obtain ⟨q1, q2, q3, q4, q5, q6⟩ := I.pk hi1
    obtain ⟨p1, p2, p3, p4, p5, p6, p7, p8, p9, p10, p11, p12, p13, p14⟩ := I.wp hi1
    have hpa := vc_pat I hi1 hh hd
    have hpb := vpa_b I hi1 (hs := hs) (dr := dr)
    have hfi : f i = if i ≠ p ∧ w (290 + 81 * i + 3) < od + 1 ∧ 0 ≤ pa_ w i hs dr then (1 : Int) else 0 := by rw [← hf]
    by_cases c1 : i = p
    · rw [if_neg (by omega)] at hfi
      simp only [sm_s, hfi, Int.add_zero, Int.natCast_add, Int.natCast_one] at ih
      simp (disch := omega) only [f_X5_oldAt_6, f_X5_oldAt_76, e4, jL, jJ, jI_lt, jI_le, jI_eq, jI_nat, jBt, jBo, x_let, if_pos, if_neg, if_true, Option.bind_some, wd_j, and_self, true_and, and_true, Int.toNat_zero, Int.toNat_natCast, isb0, isb1, ih]
    · by_cases c2 : 0 < w (290 + 81 * i + 3)
      · rw [if_pos c2] at q4
        obtain ⟨d1, d2, d3, d4, d5, d6, -⟩ := q6 c2
        by_cases c3 : w (290 + 81 * i + 3) < od + 1
        · by_cases c4 : 0 ≤ pa_ w i hs dr
          · rw [if_pos (by omega)] at hfi
            simp only [sm_s, hfi, Int.natCast_add, Int.natCast_one] at ih
            simp (disch := omega) only [f_X5_oldAt_6, f_X5_oldAt_76, e4, q4, h0, h7, d6, hpa, m1_, jL, jJ, jI_lt, jI_le, jI_eq, jI_nat, jBt, jBo, x_let, if_pos, if_neg, if_true, Option.bind_some, wd_j, and_self, true_and, and_true, Int.toNat_zero, Int.toNat_natCast, isb0, isb1, ih]
          · rw [if_neg (by omega)] at hfi
            simp only [sm_s, hfi, Int.add_zero, Int.natCast_add, Int.natCast_one] at ih
            simp (disch := omega) only [f_X5_oldAt_6, f_X5_oldAt_76, e4, q4, h0, h7, d6, hpa, m1_, jL, jJ, jI_lt, jI_le, jI_eq, jI_nat, jBt, jBo, x_let, if_pos, if_neg, if_true, Option.bind_some, wd_j, and_self, true_and, and_true, Int.toNat_zero, Int.toNat_natCast, isb0, isb1, ih]
        · rw [if_neg (by omega)] at hfi
          simp only [sm_s, hfi, Int.add_zero, Int.natCast_add, Int.natCast_one] at ih
          simp (disch := omega) only [f_X5_oldAt_6, f_X5_oldAt_76, e4, q4, h0, h7, d6, m1_, jL, jJ, jI_lt, jI_le, jI_eq, jI_nat, jBt, jBo, x_let, if_pos, if_neg, if_true, Option.bind_some, wd_j, and_self, true_and, and_true, Int.toNat_zero, Int.toNat_natCast, isb0, isb1, ih]
      · have hz : pa_ w i hs dr = -1 := by unfold pa_; rw [if_neg (by omega)]
        rw [if_neg (by omega)] at hfi
        rw [if_neg c2] at q4
        simp only [sm_s, hfi, Int.add_zero, Int.natCast_add, Int.natCast_one] at ih
        simp (disch := omega) only [f_X5_oldAt_6, f_X5_oldAt_76, e4, q4, jL, jJ, jI_lt, jI_le, jI_eq, jI_nat, jBt, jBo, x_let, if_pos, if_neg, if_true, Option.bind_some, wd_j, and_self, true_and, and_true, Int.toNat_zero, Int.toNat_natCast, isb0, isb1, ih])
  simp only [f_X5_oldAt, old_, hN, hf, jL]
  exact key
theorem vc_look {gh : Nat} {x : Nat} {K : XK} {h : XH} {w : Nat → Int} (I : Cv gh x K h w) {j d : Int} (hj : 0 ≤ j ∧ j < w 0) (hd : 0 ≤ d ∧ d < w (164 + 21 * j.toNat)) : f_X7_lookOf (x + 9) h (jI j) (jI d) = some (jI (lk_ w j d)) := by
  have h0 := I.w0
  have h2 := I.dr hj
  have e := (I.2.1.2.2.1 j.toNat (by omega)).2 d.toNat (by omega)
  have t : (j * 20 + d).toNat = 20 * j.toNat + d.toNat := by omega
  simp (disch := omega) only [f_X7_lookOf, jL, jJ, jI_lt, jI_le, jI_eq, jI_nat, jBt, jBo, x_let, if_pos, if_neg, if_true, Option.bind_some, wd_j, and_self, true_and, and_true, Int.toNat_zero, Int.toNat_natCast, isb0, isb1, t, e, lk_]
theorem vc_like {gh : Nat} {x : Nat} {K : XK} {h : XH} {w : Nat → Int} (I : Cv gh x K h w) {p : Nat} (hp : (p : Int) < w 1) {v2 : Nat} {hs dr per pl : Int} (h0 : h.1 v2 0 = jI hs) (h1 : h.1 v2 1 = jI dr) (h2 : h.1 v2 2 = jI per) (hh : 0 ≤ hs ∧ hs < w 0) (hd : 0 ≤ dr) (hp3 : 1 ≤ per ∧ per ≤ 3) (hm : dr + pl_ (w (290 + 81 * p + 2)) per ≤ w (164 + 21 * hs.toNat)) (hpl : 0 ≤ pl ∧ pl < pl_ (w (290 + 81 * p + 2)) per) :
    f_X5_likeAt x h (x + 13 + 6 + 3 * p) v2 (jI pl) = some (jI (like_ w hs dr (pl_ (w (290 + 81 * p + 2)) per) pl)) := by
  have hdd := I.dr hh
  have hlb : ∀ d : Int, 0 ≤ d → d < 20 → 0 ≤ lk_ w hs d ∧ lk_ w hs d ≤ 9 := fun d q1 q2 => I.1.2.2.1.lk hh ⟨q1, q2⟩
  have hpb := vc_pby I hp hp3.1 hp3.2
  generalize pl_ (w (290 + 81 * p + 2)) per = mn at hm hpl hpb ⊢
  have hlk := vc_look I hh (d := dr + pl) (by omega)
  have hlp := hlb (dr + pl) (by omega) (by omega)
  generalize hf : (fun k : Nat => if (k : Int) ≠ pl ∧ lk_ w hs (dr + k) = lk_ w hs (dr + pl) then (1 : Int) else 0) = f
  have hb : ∀ n, n ≤ 52 → 0 ≤ sm_ n f ∧ sm_ n f ≤ 52 := fun n hn => by rw [← hf]; exact like_b hn
  have key := x_up0 (P := fun m i => f_X5_likeAt_35 x h m v2 (jI pl) (jI (lk_ w hs (dr + pl))) (jI mn) (jI (sm_ i f)) (jI (i : Int)) = some (jI (sm_ mn.toNat f))) mn.toNat (by omega) (fun m => by
    simp (disch := omega) only [f_X5_likeAt_35, jL, jJ, jI_lt, jI_le, jI_eq, jI_nat, jBt, jBo, x_let, if_pos, if_neg, if_true, Option.bind_some, wd_j, and_self, true_and, and_true, Int.toNat_zero, Int.toNat_natCast, isb0, isb1]) (fun m i hi ih => by
    have hbi := hb i (by omega)
    have hl2 := vc_look I hh (d := dr + i) (by omega)
    have hlq := hlb (dr + i) (by omega) (by omega)
    have hfi : f i = if (i : Int) ≠ pl ∧ lk_ w hs (dr + i) = lk_ w hs (dr + pl) then (1 : Int) else 0 := by rw [← hf]
    by_cases c1 : (i : Int) = pl
    · rw [if_neg (by omega)] at hfi
      simp only [sm_s, hfi, Int.add_zero, Int.natCast_add, Int.natCast_one] at ih
      simp (disch := omega) only [f_X5_likeAt_35, f_X5_likeAt_74, jL, jJ, jI_lt, jI_le, jI_eq, jI_nat, jBt, jBo, x_let, if_pos, if_neg, if_true, Option.bind_some, wd_j, and_self, true_and, and_true, Int.toNat_zero, Int.toNat_natCast, isb0, isb1, ih]
    · by_cases c2 : lk_ w hs (dr + i) = lk_ w hs (dr + pl)
      · rw [if_pos ⟨c1, c2⟩] at hfi
        simp only [sm_s, hfi, Int.natCast_add, Int.natCast_one] at ih
        simp (disch := omega) only [f_X5_likeAt_35, f_X5_likeAt_74, h0, h1, jL, jJ, jI_lt, jI_le, jI_eq, jI_nat, jBt, jBo, x_let, if_pos, if_neg, if_true, Option.bind_some, wd_j, and_self, true_and, and_true, Int.toNat_zero, Int.toNat_natCast, isb0, isb1, hl2, ih]
      · rw [if_neg (fun q => c2 q.2)] at hfi
        simp only [sm_s, hfi, Int.add_zero, Int.natCast_add, Int.natCast_one] at ih
        simp (disch := omega) only [f_X5_likeAt_35, f_X5_likeAt_74, h0, h1, jL, jJ, jI_lt, jI_le, jI_eq, jI_nat, jBt, jBo, x_let, if_pos, if_neg, if_true, Option.bind_some, wd_j, and_self, true_and, and_true, Int.toNat_zero, Int.toNat_natCast, isb0, isb1, hl2, ih])
  rw [f_X5_likeAt, h0, h1, jI_add, hlk, Option.bind_some, h2, hpb, Option.bind_some]
  unfold like_
  rw [hf]
  exact key
theorem vold_2 {gh : Nat} {x : Nat} {K : XK} {h : XH} {w : Nat → Int} (I : Cv gh x K h w) {p : Nat} {hs dr ah : Int} : 0 ≤ old_ w p hs dr ah ∧ old_ w p hs dr ah ≤ 8 := vold_b I (by have := I.w1; omega)
theorem vfg_k {gh : Nat} {x : Nat} {K : XK} {h : XH} {w : Nat → Int} (I : Cv gh x K h w) {p : Nat} {hs dr per sec gone ah age pl ro du : Int} (b1 : 0 ≤ sec ∧ sec ≤ 60) (b2 : 0 ≤ gone ∧ gone ≤ 120000) (b3 : 0 ≤ age ∧ age ≤ 120000) (b4 : 1 ≤ per ∧ per ≤ 3) (b5 : 0 ≤ ro ∧ ro ≤ 3) (b6 : 0 ≤ du ∧ du ≤ 9) (b7 : pl_ (w (290 + 81 * p + 2)) per ≤ 52) : gk_ false (fg_ w p hs dr per sec gone ah age pl ro du) := by
  have ho := vold_2 I (p := p) (hs := hs) (dr := dr + pl) (ah := ah)
  have hl := like_2 (w := w) (hs := hs) (fr := dr) (pl := pl) b7
  have h01 : ∀ c : Prop, [Decidable c] → (if c then (1 : Int) else 0) = 0 ∨ (if c then (1 : Int) else 0) = 1 := fun c _ => by
    by_cases e : c
    · exact Or.inr (if_pos e)
    · exact Or.inl (if_neg e)
  have e8 : fg_ w p hs dr per sec gone ah age pl ro du 8 = if pl = 0 then 1 else 0 := by simp [fg_]
  have e9 : fg_ w p hs dr per sec gone ah age pl ro du 9 = if pl = pl_ (w (290 + 81 * p + 2)) per - 1 then 1 else 0 := by simp [fg_]
  refine ⟨fun s h0 h1 _ => ?_, by rw [e8]; exact h01 _, fun _ => by rw [e9]; exact h01 _⟩
  have q8 := h01 (pl = 0)
  have q9 := h01 (pl = pl_ (w (290 + 81 * p + 2)) per - 1)
  unfold fg_
  generalize (if pl = 0 then (1 : Int) else 0) = y8 at q8 ⊢
  generalize (if pl = pl_ (w (290 + 81 * p + 2)) per - 1 then (1 : Int) else 0) = y9 at q9 ⊢
  generalize old_ w p hs (dr + pl) ah = yo at ho ⊢
  generalize like_ w hs dr (pl_ (w (290 + 81 * p + 2)) per) pl = yl at hl ⊢
  rcases (show s = 0 ∨ s = 1 ∨ s = 2 ∨ s = 3 ∨ s = 4 ∨ s = 5 ∨ s = 6 ∨ s = 7 ∨ s = 8 ∨ s = 9 by omega) with e | e | e | e | e | e | e | e | e | e <;> subst e <;> simp <;> omega
theorem vc_face {gh : Nat} {x : Nat} {K : XK} {h : XH} {w : Nat → Int} (I : Cv gh x K h w) {p : Nat} (hp : (p : Int) < w 1) {v : Nat} {hs dr per sec gone t q od pl ck : Int} (hv : v ≠ x + 44) (hP : PT h v hs dr per sec gone t q od) (hB : PB w p hs dr per od) (hl : 0 ≤ pl ∧ pl < pl_ (w (290 + 81 * p + 2)) per) (ha : 0 ≤ ck - t - pl * q ∧ ck - t - pl * q < 2147483648) (ro du : Int) :
    ∃ h2, f_X5_facePlace x h (jI p) v (jI pl) (jI ck) = some h2 ∧ (∀ a, a ≠ x + 44 → h2.1 a = h.1 a) ∧ h2.2 = h.2 ∧ FP x h2 (fg_ w p hs dr per sec gone (od + 1) ((ck - t - pl * q) / 10) pl ro du) := by
  obtain ⟨v0, v1, v2, v3, v4, v5, v6, v7⟩ := hP
  obtain ⟨b1, b2, b3, b4, b5, b6, b7, b8⟩ := hB
  have h1 := I.w1
  have h0 := I.w0
  have hd := I.dr ⟨b1, b2⟩
  obtain ⟨-, -, -, -, -, -, p7, p8, -⟩ := I.wp hp
  have hpl := pl_b p7 p8 b4 b5
  have gv : ∀ (H : XH) (j : Nat) (y : Int32), (x_i H (x + 44) j y).1 v = H.1 v := fun H j y => gi_n hv
  have F1 : Fr x h (x_i h (x + 44) 0 (jI sec)) := Fr.i (by decide)
  have o := vc_old (I.fr F1) (p := p) (by rw [(rfl : w = w)]; exact hp) (v2 := v) (hs := hs) (dr := dr + pl) (od := od) (by rw [gv]; exact v0) (by rw [gv]; exact v7) (by omega) (by omega) ⟨b7, b8⟩
  rw [(rfl : w = w)] at o
  generalize hO : old_ w p hs (dr + pl) (od + 1) = O at o
  have F2 : Fr x h (x_i (x_i h (x + 44) 0 (jI sec)) (x + 44) 2 (jI O)) := F1.tr (Fr.i (by decide))
  have l := vc_like (I.fr F2) (p := p) (by rw [(rfl : w = w)]; exact hp) (v2 := v) (hs := hs) (dr := dr) (per := per) (pl := pl) (by rw [gv, gv]; exact v0) (by rw [gv, gv]; exact v1) (by rw [gv, gv]; exact v2) (by rw [(rfl : w = w)]; exact ⟨b1, b2⟩) b3 ⟨b4, b5⟩ (by rw [(rfl : w = w)]; exact b6) (by rw [(rfl : w = w)]; exact hl)
  rw [(rfl : w = w)] at l
  generalize hL : like_ w hs dr (pl_ (w (290 + 81 * p + 2)) per) pl = Y at l
  generalize hA : (ck - t - pl * q) / 10 = A
  have F3 : Fr x h (x_i (x_i (x_i h (x + 44) 0 (jI sec)) (x + 44) 2 (jI O)) (x + 44) 3 (jI Y)) := F2.tr (Fr.i (by decide))
  have F4 : Fr x h (x_i (x_i (x_i (x_i h (x + 44) 0 (jI sec)) (x + 44) 2 (jI O)) (x + 44) 3 (jI Y)) (x + 44) 4 (jI A)) := F3.tr (Fr.i (by decide))
  have F5 : Fr x h (x_i (x_i (x_i (x_i (x_i h (x + 44) 0 (jI sec)) (x + 44) 2 (jI O)) (x + 44) 3 (jI Y)) (x + 44) 4 (jI A)) (x + 44) 5 (jI gone)) := F4.tr (Fr.i (by decide))
  have F6 : Fr x h (x_i (x_i (x_i (x_i (x_i (x_i h (x + 44) 0 (jI sec)) (x + 44) 2 (jI O)) (x + 44) 3 (jI Y)) (x + 44) 4 (jI A)) (x + 44) 5 (jI gone)) (x + 44) 6 (jI per)) := F5.tr (Fr.i (by decide))
  have F8 : Fr x h (x_i (x_i (x_i (x_i (x_i (x_i (x_i h (x + 44) 0 (jI sec)) (x + 44) 2 (jI O)) (x + 44) 3 (jI Y)) (x + 44) 4 (jI A)) (x + 44) 5 (jI gone)) (x + 44) 6 (jI per)) (x + 44) 8 (jI (if pl = 0 then 1 else 0))) := F6.tr (Fr.i (by decide))
  have pb := vc_pby (I.fr F8) (p := p) (by rw [(rfl : w = w)]; exact hp) (per := per) b4 b5
  rw [(rfl : w = w)] at pb
  generalize hN : pl_ (w (290 + 81 * p + 2)) per = N at pb hl hpl b6
  have e8 : (if jI pl = (0 : Int32) then (1 : Int32) else 0) = jI (if pl = 0 then 1 else 0) := by
    by_cases e : pl = 0
    · rw [if_pos e, if_pos (by rw [e]; rfl)]; rfl
    · rw [if_neg e, if_neg (show ¬ jI pl = (0 : Int32) from fun c => e ((jI_eq (by omega) (by omega) (by omega) (by omega)).mp (show jI pl = jI 0 from c)))]; rfl
  have e9 : (if jI pl = jI N - 1 then (1 : Int32) else 0) = jI (if pl = N - 1 then 1 else 0) := by
    rw [show (1 : Int32) = jI 1 from rfl, jI_sub]
    by_cases e : pl = N - 1
    · rw [if_pos e, if_pos (by rw [e])]
    · rw [if_neg e, if_neg (fun c => e ((jI_eq (by omega) (by omega) (by omega) (by omega)).mp c))]; rfl
  have ag : f_X4_ageOf v (x_i (x_i (x_i h (x + 44) 0 (jI sec)) (x + 44) 2 (jI O)) (x + 44) 3 (jI Y)) (jI pl) (jI ck) = jI A := by
    unfold f_X4_ageOf
    rw [gv, gv, gv, v5, v6, jI_sub, jI_mul, jI_sub, show (10 : Int32) = jI 10 from rfl, jI_div (by omega) (by omega) (by omega) (by omega), hA]
  have t0 : (0 : Int32).toNatClampNeg = 0 := rfl
  have t2 : (2 : Int32).toNatClampNeg = 2 := rfl
  have t3 : (3 : Int32).toNatClampNeg = 3 := rfl
  have t4 : (4 : Int32).toNatClampNeg = 4 := rfl
  have t5 : (5 : Int32).toNatClampNeg = 5 := rfl
  have t6 : (6 : Int32).toNatClampNeg = 6 := rfl
  have t8 : (8 : Int32).toNatClampNeg = 8 := rfl
  have t9 : (9 : Int32).toNatClampNeg = 9 := rfl
  have np : (jI (p : Int)).toNatClampNeg = p := nat_ (by omega)
  have aj : (x_i h (x + 44) 0 (jI sec)).1 v 1 + jI pl = jI (dr + pl) := by rw [gv, v1, jI_add]
  refine ⟨x_i (x_i (x_i (x_i (x_i (x_i (x_i (x_i h (x + 44) 0 (jI sec)) (x + 44) 2 (jI O)) (x + 44) 3 (jI Y)) (x + 44) 4 (jI A)) (x + 44) 5 (jI gone)) (x + 44) 6 (jI per)) (x + 44) 8 (jI (if pl = 0 then 1 else 0))) (x + 44) 9 (jI (if pl = N - 1 then 1 else 0)), ?_, fun a ha => ?_, rfl, fun s s0 s1 s2 s3 => ?_⟩
  · unfold f_X5_facePlace
    rw [if_pos (jI_b (by omega) (by omega) (by omega)), if_pos (by decide), xl_, t0, v3, aj, o, Option.bind_some, if_pos (by decide), xl_, t2, np, l, Option.bind_some, if_pos (by decide), xl_, t3, if_pos (by decide), xl_, t4, ag, if_pos (by decide), xl_, t5, gv, gv, gv, gv, v4, if_pos (by decide), xl_, t6, gv, gv, gv, gv, gv, v2, if_pos (by decide), xl_, t8, e8, gv, gv, gv, gv, gv, gv, gv, v2, pb, Option.bind_some, if_pos (by decide), xl_, t9, e9]
  · simp only [gi_n ha]
  · unfold fg_
    rw [hO, hL, hN]
    rcases (show s = 0 ∨ s = 2 ∨ s = 3 ∨ s = 4 ∨ s = 5 ∨ s = 6 ∨ s = 8 ∨ s = 9 by omega) with e | e | e | e | e | e | e | e <;> subst e <;> simp [gi_]
theorem vdu_b {gh : Nat} {x : Nat} {K : XK} {h : XH} {w : Nat → Int} (I : Cv gh x K h w) {p : Nat} {i r : Int} (hr : 0 ≤ r ∧ r < 3) : 0 ≤ du_ w (cd_ w p i) r ∧ du_ w (cd_ w p i) r ≤ 9 := by
  have hc := cd_b w p i
  have := I.1.2.1 (3 * (cd_ w p i).toNat + r.toNat) (by omega)
  unfold du_
  rw [show 8 + 3 * (cd_ w p i).toNat + r.toNat = 8 + (3 * (cd_ w p i).toNat + r.toNat) by omega]
  exact this
theorem vc_dul {gh : Nat} {x : Nat} {K : XK} {h : XH} {w : Nat → Int} (I : Cv gh x K h w) {p : Nat} (hp : (p : Int) < w 1) {i r : Int} (hi : 0 ≤ i ∧ i ≤ 60) (hr : 0 ≤ r ∧ r < 3) : x_b (f_X2_cardAt (x + 13 + 6 + 3 * p) h (jI i) * 3 + jI r) 156 = true ∧ h.1 (x + 10) (f_X2_cardAt (x + 13 + 6 + 3 * p) h (jI i) * 3 + jI r).toNatClampNeg = jI (du_ w (cd_ w p i) r) := by
  have hc := cd_b w p i
  rw [vc_card I hp hi, show (3 : Int32) = jI 3 from rfl, jI_mul, jI_add]
  refine ⟨jI_b (by omega) (by omega) (by omega), ?_⟩
  rw [jI_nat (by omega) (by omega)]
  have := I.2.1.2.1 (3 * (cd_ w p i).toNat + r.toNat) (by omega)
  rw [show (cd_ w p i * 3 + r).toNat = 3 * (cd_ w p i).toNat + r.toNat by omega]
  unfold du_
  rw [show 8 + 3 * (cd_ w p i).toNat + r.toNat = 8 + (3 * (cd_ w p i).toNat + r.toNat) by omega]
  exact this
theorem Cv.w6 {gh : Nat} {x : Nat} {K : XK} {h : XH} {w : Nat → Int} (I : Cv gh x K h w) : 0 ≤ w 6 ∧ w 6 ≤ 1000000 := ⟨I.1.1.2.2.2.2.2.2.2.2.2.2.2.2.1, I.1.1.2.2.2.2.2.2.2.2.2.2.2.2.2.1⟩
theorem Cv.w7 {gh : Nat} {x : Nat} {K : XK} {h : XH} {w : Nat → Int} (I : Cv gh x K h w) : 0 ≤ w 7 ∧ w 7 ≤ 8 := ⟨I.1.1.2.2.2.2.2.2.2.2.2.2.2.2.2.2.1, I.1.1.2.2.2.2.2.2.2.2.2.2.2.2.2.2.2⟩
theorem Cv.gn {gh : Nat} {x : Nat} {K : XK} {h : XH} {w : Nat → Int} (I : Cv gh x K h w) {p : Nat} (hp : (p : Int) < w 1) : w (290 + 81 * p + 8) ≤ 1000 := by
  have h1 := I.1.2.2.2.2.1.2.2.2.1
  have h2 := I.1.2.2.2.2.1.2.2.2.2 p hp
  rw [show 290 + 81 * p + 8 = 298 + 81 * p by omega]
  omega
theorem Cv.put {gh : Nat} {x : Nat} {K : XK} {h : XH} {w : Nat → Int} (I : Cv gh x K h w) {p : Nat} (hp : (p : Int) < w 1) (hq : 0 < w (290 + 81 * p + 3)) : ∃ tm q, PT h (x + 13 + 6 + 3 * p + 1) (w (290 + 81 * p + 4)) (w (290 + 81 * p + 5)) (w (290 + 81 * p + 6)) (w (290 + 81 * p + 7)) (w (290 + 81 * p + 8)) tm q (w (290 + 81 * p + 3) - 1) ∧ PB w p (w (290 + 81 * p + 4)) (w (290 + 81 * p + 5)) (w (290 + 81 * p + 6)) (w (290 + 81 * p + 3) - 1) ∧ (0 ≤ w (290 + 81 * p + 7) ∧ w (290 + 81 * p + 7) ≤ 60) ∧ (0 ≤ w (290 + 81 * p + 8) ∧ w (290 + 81 * p + 8) ≤ 1000) ∧ w (290 + 81 * p + 3) ≤ 8 ∧ (w (290 + 81 * p + 5) + pc_ w p ≤ 20) ∧ ∀ pl, 0 ≤ pl → pl < pc_ w p → w (290 + 81 * p + 9 + pl.toNat) = tm + pl * q ∧ 0 ≤ w (290 + 81 * p + 9 + pl.toNat) ∧ w (290 + 81 * p + 9 + pl.toNat) ≤ w 6 := by
  obtain ⟨p1, p2, p3, p4, p5, p6, p7, p8, p9, p10, p11, p12, p13, p14⟩ := I.wp hp
  obtain ⟨q1, q2, q3, q4, q5, q6, q7, q8, q9⟩ := p14 hq
  obtain ⟨k1, k2, k3, k4, k5, k6⟩ := I.pk hp
  obtain ⟨l1, l2, l3, l4, l5, l6, tm, q, l7, l8, l9, l10, l11, l12, l13⟩ := k6 hq
  have h20 := I.dr ⟨q1, q2⟩
  have h7 := I.w7
  have hg := I.gn hp
  refine ⟨tm, q, ⟨l1, l2, l3, l4, l5, l7, l8, l6⟩, ⟨q1, q2, q3, p11, p12, q4, by omega, by omega⟩, by omega, ⟨q7, hg⟩, by omega, ?_, fun pl h1 h2 => ?_⟩
  · unfold pc_
    omega
  · have a := l13 pl.toNat (by unfold pc_ at h2; omega)
    have b := q9 pl.toNat (by unfold pc_ at h2; omega)
    rw [Int.toNat_of_nonneg h1] at a
    exact ⟨a, b⟩
theorem vc_plc {gh : Nat} {x : Nat} {K : XK} {h : XH} {w : Nat → Int} (I : Cv gh x K h w) {p : Nat} (hp : (p : Int) < w 1) (hq : 0 < w (290 + 81 * p + 3)) {i : Int} (hi : 0 ≤ i ∧ i ≤ 60) : f_X2_placeOf (x + 13 + 6 + 3 * p) h (jI i) = some (jI (i / w (290 + 81 * p + 6))) ∧ f_X2_roleOf (x + 13 + 6 + 3 * p) h (jI i) = some (jI (i % w (290 + 81 * p + 6))) := by
  obtain ⟨tm, q, P1, P2, -⟩ := I.put hp hq
  obtain ⟨-, -, -, b6, b7, -⟩ := P2
  have e2 := P1.2.2.1
  have a : f_X2_placeOf (x + 13 + 6 + 3 * p) h (jI i) = some (jI (i / w (290 + 81 * p + 6))) := by
    unfold f_X2_placeOf
    rw [e2, if_pos (show (1 : Int32) ≤ jI (w (290 + 81 * p + 6)) from (jI_le (a := 1) (by omega) (by omega) (by omega) (by omega)).mpr b6), if_neg (j_ne0 (by omega) (by omega) (by omega)), jI_div (by omega) (by omega) (by omega) (by omega)]
  refine ⟨a, ?_⟩
  unfold f_X2_roleOf
  rw [a, Option.bind_some, e2, jI_mul, jI_sub, Int.emod_def, Int.mul_comm]
theorem vc_now {gh : Nat} {x : Nat} {K : XK} {h : XH} {w : Nat → Int} (I : Cv gh x K h w) {p t r : Nat} (hp : (p : Int) < w 1) (hq : 0 < w (290 + 81 * p + 3)) (c : CTx x K h r w (970 + 851 * t) false) (hx : WTx w (970 + 851 * t) false) {i : Int} (hi : 0 ≤ i ∧ i < w (290 + 81 * p + 2)) :
    ∃ h2, f_X5_heldNow K x h (some r) (jI p) (jI i) = some (jI (hn_ w t p (w 6) i), h2) ∧ (∀ a, a ≠ x + 44 → a ≠ x + 45 → h2.1 a = h.1 a) ∧ h2.2 = h.2 := by
  have h1 := I.w1
  have h6 := I.w6
  have e7 := I.2.1.1.2.2.2.1
  have hr := c.1
  obtain ⟨tm, q, P1, P2, P3, P4, P5, P6, P7⟩ := I.put hp hq
  obtain ⟨-, -, -, b6, b7, -⟩ := id P2
  obtain ⟨-, -, -, -, -, -, p7, p8, -⟩ := I.wp hp
  have hpl := pl_b p7 p8 b6 b7
  obtain ⟨-, -, -, -, -, n6, n7, n8, n9, n10⟩ := nm_ (per := w (290 + 81 * p + 6)) (i := i) (n := w (290 + 81 * p + 2)) b6 b7 hi.1
  have ni := n10 hi.2
  have Pi := P7 _ n8 ni
  obtain ⟨h2, g1, g2, g3, g4⟩ := vc_face I hp (pl := i / w (290 + 81 * p + 6)) (ck := w 6) (by omega) P1 P2 ⟨n8, ni⟩ (by omega) (i % w (290 + 81 * p + 6)) (du_ w (cd_ w p i) (i % w (290 + 81 * p + 6)))
  have F : Fr x h h2 := Fr.o1 g2 g3 (by decide)
  have J := I.fr F
  have ew := (rfl : w = w)
  obtain ⟨d1, d2⟩ := vc_dul J (p := p) (by rw [ew]; exact hp) (i := i) (r := i % w (290 + 81 * p + 6)) (by omega) ⟨n6, by omega⟩
  rw [ew] at d2
  have db := vdu_b I (p := p) (i := i) (r := i % w (290 + 81 * p + 6)) ⟨n6, by omega⟩
  have c2 : CTx x K h2 r w (970 + 851 * t) false := c.c ⟨hx.1, hx.2.1⟩ (fun _ _ _ => rfl) (fun a q1 _ => g2 a (by omega)) (fun _ _ _ => rfl)
  rw [Int.sub_add_cancel] at g4
  have gk := vfg_k I (p := p) (hs := w (290 + 81 * p + 4)) (dr := w (290 + 81 * p + 5)) (ah := w (290 + 81 * p + 3)) (pl := i / w (290 + 81 * p + 6)) (age := (w 6 - tm - i / w (290 + 81 * p + 6) * q) / 10) P3 ⟨P4.1, by omega⟩ (by omega) ⟨b6, b7⟩ ⟨n6, by omega⟩ db hpl.2
  obtain ⟨h3, k1, k2, k3, -⟩ := c_hw c2 hx g4 (ro := i % w (290 + 81 * p + 6)) (du := du_ w (cd_ w p i) (i % w (290 + 81 * p + 6))) (by simp [fg_]) (by simp [fg_]) gk
  have pr := (vc_plc I hp hq (i := i) (by omega)).1
  have rl := (vc_plc J (p := p) (by rw [ew]; exact hp) (by rw [ew]; exact hq) (i := i) (by omega)).2
  rw [ew] at rl
  refine ⟨h3, ?_, fun a q1 q2 => by rw [k2 a q1 q2, g2 a q1], by rw [k3, g3]⟩
  unfold f_X5_heldNow
  rw [if_pos (jI_b (by omega) (by omega) (by omega)), nat_ (by omega), pr, Option.bind_some, e7, g1, Option.bind_some, rl, Option.bind_some, if_pos d1, d2, k1, Option.bind_some]
  unfold hn_ hg_ ag_
  rw [Pi.1, show w 6 - tm - i / w (290 + 81 * p + 6) * q = w 6 - (tm + i / w (290 + 81 * p + 6) * q) by omega]
theorem vc_cw {gh : Nat} {x : Nat} {K : XK} {h : XH} {w : Nat → Int} (I : Cv gh x K h w) {p : Nat} (hp : (p : Int) < w 1) (hq : 0 < w (290 + 81 * p + 3)) {pl ro : Int} (h1 : -1 ≤ pl ∧ pl ≤ 60) (h2 : 0 ≤ ro ∧ ro ≤ 3) : f_X2_cardWith (x + 13 + 6 + 3 * p) h (jI pl) (jI ro) = jI (cw_ w p pl ro) := by
  obtain ⟨-, -, -, -, -, -, p7, p8, -, -, p11, p12, -⟩ := I.wp hp
  obtain ⟨k1, k2, k3, k4, k5, k6⟩ := I.pk hp
  have l3 := (k6 hq).2.2.1
  have hm := mp_b p11 p12 h1.1 h1.2
  unfold f_X2_cardWith cw_
  rw [xl_, l3, k3, jI_mul, jI_add]
  by_cases c1 : pl < 0
  · rw [if_pos ((jlt0 (by omega) (by omega)).mpr c1), if_pos (Or.inl c1)]; rfl
  · rw [if_neg (fun e => c1 ((jlt0 (by omega) (by omega)).mp e))]
    by_cases c2 : w (290 + 81 * p + 6) ≤ ro
    · rw [if_pos ((jI_le (by omega) (by omega) (by omega) (by omega)).mpr c2), if_pos (Or.inr (Or.inl c2))]; rfl
    · rw [if_neg (fun e => c2 ((jI_le (by omega) (by omega) (by omega) (by omega)).mp e))]
      have h0 := hm.2.2 (by omega)
      by_cases c3 : w (290 + 81 * p + 2) ≤ pl * w (290 + 81 * p + 6) + ro
      · rw [if_neg (fun e => absurd ((jI_lt (by omega) (by omega) (by omega) (by omega)).mp e) (by omega)), if_pos (Or.inr (Or.inr c3))]; rfl
      · rw [if_pos ((jI_lt (by omega) (by omega) (by omega) (by omega)).mpr (by omega)), if_neg (by omega), vc_card I hp (by omega)]
theorem vgo_b {gh : Nat} {x : Nat} {K : XK} {h : XH} {w : Nat → Int} (I : Cv gh x K h w) {p : Nat} {dr ro : Int} : ∀ n : Nat, (n : Int) ≤ w 1 → 0 ≤ (go_ w p dr ro n).1 ∧ (go_ w p dr ro n).1 ≤ 8 ∧ -1 ≤ (go_ w p dr ro n).2 ∧ (go_ w p dr ro n).2 < 52 ∧ ((go_ w p dr ro n).1 = 0 ∨ ∃ q, q < n ∧ 0 < w (290 + 81 * q + 3) ∧ (go_ w p dr ro n).1 = w (290 + 81 * q + 3)) := by
  have h7 := I.w7
  intro n
  induction n with
  | zero => intro _; exact ⟨show (0 : Int) ≤ 0 by decide, show (0 : Int) ≤ 8 by decide, show (-1 : Int) ≤ -1 by decide, show (-1 : Int) < 52 by decide, Or.inl rfl⟩
  | succ n ih =>
    intro hn
    obtain ⟨i1, i2, i3, i4, i5⟩ := ih (by omega)
    by_cases c : 0 ≤ pa_ w n (w (290 + 81 * p + 4)) dr ∧ w (290 + 81 * n + 3) < w (290 + 81 * p + 3) ∧ (go_ w p dr ro n).1 < w (290 + 81 * n + 3) ∧ 0 ≤ cw_ w n (pa_ w n (w (290 + 81 * p + 4)) dr) ro
    · rw [go_y c]
      have hw := (I.wp (q := n) (by omega)).2.2.2.2.2.2.2.2.2.1
      have hc := cw_b (w := w) (p := n) (pl := pa_ w n (w (290 + 81 * p + 4)) dr) (ro := ro)
      refine ⟨?_, ?_, hc.1, hc.2, Or.inr ⟨n, by omega, pa_u c.1, rfl⟩⟩
      · show 0 ≤ w (290 + 81 * n + 3); omega
      · show w (290 + 81 * n + 3) ≤ 8; omega
    · rw [go_n c]
      refine ⟨i1, i2, i3, i4, ?_⟩
      rcases i5 with e | ⟨q, e1, e2, e3⟩
      · exact Or.inl e
      · exact Or.inr ⟨q, by omega, e2, e3⟩
theorem vc_gho {gh : Nat} {x : Nat} {K : XK} {h : XH} {w : Nat → Int} (I : Cv gh x K h w) {p : Nat} (hp : (p : Int) < w 1) (hq : 0 < w (290 + 81 * p + 3)) {dr ro : Int} (h1 : 0 ≤ dr ∧ dr ≤ 100) (h2 : 0 ≤ ro ∧ ro ≤ 3) : f_X6_ghostAt x h (jI p) (jI dr) (jI ro) = some (jI (go_ w p dr ro (w 1).toNat).2) := by
  have w1 := I.w1
  have w0 := I.w0
  have w7 := I.w7
  obtain ⟨tm, q, P1, P2, P3, P4, P5, P6, P7⟩ := I.put hp hq
  obtain ⟨b1, b2, -⟩ := id P2
  have e4 := I.2.1.1.2.1
  unfold f_X6_ghostAt
  rw [if_pos (jI_b (by omega) (by omega) (by omega)), nat_ (by omega)]
  refine x_up0 (P := fun m n => f_X6_ghostAt_23 x h m (jI dr) (jI ro) (x + 13 + 6 + 3 * p + 1) (jI ((go_ w p dr ro n).1 - 1)) (jI (go_ w p dr ro n).2) (jI (n : Int)) = some (jI (go_ w p dr ro (w 1).toNat).2)) (w 1).toNat (by omega) (fun m => by
    unfold f_X6_ghostAt_23
    rw [e4, if_pos ((jI_le (by omega) (by omega) (by omega) (by omega)).mpr (by omega))]) (fun m n hn ih => by
    have gb := vgo_b I (p := p) (dr := dr) (ro := ro) n (by omega)
    have hn1 : (n : Int) < w 1 := by omega
    have pa := vc_pat I hn1 (hs := w (290 + 81 * p + 4)) (dr := dr) (by omega) h1
    have pb := vpa_b I hn1 (hs := w (290 + 81 * p + 4)) (dr := dr)
    have hw := (I.wp hn1).2.2.2.2.2.2.2.2
    have a1 : jI (n : Int) + 1 = jI ((n + 1 : Nat) : Int) := by
      rw [show (1 : Int32) = jI 1 from rfl, jI_add]
      rfl
    unfold f_X6_ghostAt_23
    rw [e4, if_neg (fun e => absurd ((jI_le (by omega) (by omega) (by omega) (by omega)).mp e) (by omega)), if_pos (jI_b (by omega) (by omega) (by omega)), nat_ (by omega), P1.1, pa, Option.bind_some, xl_, P1.2.2.2.2.2.2.2, a1]
    by_cases c1 : pa_ w n (w (290 + 81 * p + 4)) dr = -1
    · rw [if_pos ((jm1 (by omega) (by omega)).mpr c1), if_pos ((jm1 (by omega) (by omega)).mpr c1)]
      rw [go_n (by omega)] at ih
      exact ih
    · have un := pa_u (w := w) (q := n) (hs := w (290 + 81 * p + 4)) (dr := dr) (by omega)
      have o7 := ((I.pk hn1).2.2.2.2.2 un).2.2.2.2.2.1
      have cc := vc_cw I hn1 un (pl := pa_ w n (w (290 + 81 * p + 4)) dr) (ro := ro) (by omega) h2
      have cb := cw_b (w := w) (p := n) (pl := pa_ w n (w (290 + 81 * p + 4)) dr) (ro := ro)
      rw [if_neg (fun e => c1 ((jm1 (by omega) (by omega)).mp e)), if_neg (fun e => c1 ((jm1 (by omega) (by omega)).mp e)), o7, cc]
      by_cases c2 : w (290 + 81 * n + 3) < w (290 + 81 * p + 3)
      · have n2 : ¬ jI (w (290 + 81 * p + 3) - 1) ≤ jI (w (290 + 81 * n + 3) - 1) := fun e => absurd ((jI_le (by omega) (by omega) (by omega) (by omega)).mp e) (by omega)
        rw [if_neg n2, if_neg n2]
        by_cases c3 : (go_ w p dr ro n).1 < w (290 + 81 * n + 3)
        · have n3 : ¬ jI (w (290 + 81 * n + 3) - 1) ≤ jI ((go_ w p dr ro n).1 - 1) := fun e => absurd ((jI_le (by omega) (by omega) (by omega) (by omega)).mp e) (by omega)
          rw [if_neg n3, if_neg n3]
          by_cases c4 : 0 ≤ cw_ w n (pa_ w n (w (290 + 81 * p + 4)) dr) ro
          · have n4 : ¬ jI (cw_ w n (pa_ w n (w (290 + 81 * p + 4)) dr) ro) = (-1 : Int32) := fun e => absurd ((jm1 (by omega) (by omega)).mp e) (by omega)
            rw [if_neg n4, if_neg n4]
            rw [go_y ⟨by omega, c2, c3, c4⟩] at ih
            exact ih
          · have n4 : jI (cw_ w n (pa_ w n (w (290 + 81 * p + 4)) dr) ro) = (-1 : Int32) := (jm1 (by omega) (by omega)).mpr (by omega)
            rw [if_pos n4, if_pos n4]
            rw [go_n (fun q => c4 q.2.2.2)] at ih
            exact ih
        · have n3 : jI (w (290 + 81 * n + 3) - 1) ≤ jI ((go_ w p dr ro n).1 - 1) := (jI_le (by omega) (by omega) (by omega) (by omega)).mpr (by omega)
          rw [if_pos n3, if_pos n3]
          rw [go_n (fun q => c3 q.2.2.1)] at ih
          exact ih
      · have n2 : jI (w (290 + 81 * p + 3) - 1) ≤ jI (w (290 + 81 * n + 3) - 1) := (jI_le (by omega) (by omega) (by omega) (by omega)).mpr (by omega)
        rw [if_pos n2, if_pos n2]
        rw [go_n (fun q => c2 q.2.1)] at ih
        exact ih)
theorem vc_ali {gh : Nat} {x : Nat} {K : XK} {h : XH} {w : Nat → Int} (I : Cv gh x K h w) {p : Nat} (hp : (p : Int) < w 1) (hq : 0 < w (290 + 81 * p + 3)) {pl ro : Int} (h1 : 0 ≤ pl ∧ pl < pc_ w p) (h2 : 0 ≤ ro ∧ ro ≤ 3) : f_X6_alikeTo x h (x + 13 + 6 + 3 * p) (jI pl) (jI ro) = some (jI (al_ w p pl ro (pc_ w p).toNat 0)) := by
  have w1 := I.w1
  have w0 := I.w0
  obtain ⟨tm, q, P1, P2, P3, P4, P5, P6, P7⟩ := I.put hp hq
  obtain ⟨b1, b2, b3, b6, b7, b8, -⟩ := id P2
  have b8' : w (290 + 81 * p + 5) + pc_ w p ≤ w (164 + 21 * (w (290 + 81 * p + 4)).toNat) := b8
  have pcb := vpc_b I hp
  have hpb := vc_pby I hp b6 b7
  have lk0 := vc_look I ⟨b1, b2⟩ (d := w (290 + 81 * p + 5) + pl) (by omega)
  have lb := fun d (h1 : 0 ≤ d) (h2 : d < 20) => I.1.2.2.1.lk ⟨b1, b2⟩ (d := d) ⟨h1, h2⟩
  have lb0 := lb (w (290 + 81 * p + 5) + pl) (by omega) (by omega)
  unfold f_X6_alikeTo f_X2_places
  rw [P1.1, P1.2.1, P1.2.2.1, jI_add, lk0, Option.bind_some, hpb, Option.bind_some]
  have key := x_up0 (P := fun m k => f_X6_alikeTo_38 x h m (x + 13 + 6 + 3 * p) (jI pl) (jI ro) (jI (w (290 + 81 * p + 4))) (jI (lk_ w (w (290 + 81 * p + 4)) (w (290 + 81 * p + 5) + pl))) (jI (pc_ w p)) (jI (k : Int)) = some (jI (al_ w p pl ro ((pc_ w p).toNat - k) k))) (pc_ w p).toNat (by omega) (fun m => by
    unfold f_X6_alikeTo_38
    rw [if_pos ((jI_le (by omega) (by omega) (by omega) (by omega)).mpr (by omega)), Nat.sub_self]
    rfl) (fun m k hk ih => by
    have a1 : jI (k : Int) + 1 = jI ((k + 1 : Nat) : Int) := by
      rw [show (1 : Int32) = jI 1 from rfl, jI_add]
      rfl
    have lkk := vc_look I ⟨b1, b2⟩ (d := w (290 + 81 * p + 5) + k) (by omega)
    have lbk := lb (w (290 + 81 * p + 5) + k) (by omega) (by omega)
    have cc := vc_cw I hp hq (pl := (k : Int)) (ro := ro) (by omega) h2
    have cb := cw_b (w := w) (p := p) (pl := (k : Int)) (ro := ro)
    rw [show (pc_ w p).toNat - k = (pc_ w p).toNat - (k + 1) + 1 by omega]
    unfold f_X6_alikeTo_38 f_X6_alikeTo_94 al_
    rw [if_neg (fun e => absurd ((jI_le (by omega) (by omega) (by omega) (by omega)).mp e) (by omega)), a1]
    by_cases c1 : (k : Int) = pl
    · rw [if_pos (by rw [c1]), if_neg (fun q => q.1 c1)]
      exact ih
    · rw [if_neg (fun e => c1 ((jI_eq (by omega) (by omega) (by omega) (by omega)).mp e)), P1.2.1, jI_add, lkk, Option.bind_some]
      by_cases c2 : lk_ w (w (290 + 81 * p + 4)) (w (290 + 81 * p + 5) + k) = lk_ w (w (290 + 81 * p + 4)) (w (290 + 81 * p + 5) + pl)
      · rw [if_pos (by rw [c2]), cc]
        by_cases c3 : 0 ≤ cw_ w p k ro
        · rw [if_neg (fun e => absurd ((jm1 (by omega) (by omega)).mp e) (by omega)), if_pos ⟨c1, c2, c3⟩]
        · rw [if_pos ((jm1 (by omega) (by omega)).mpr (by omega)), if_neg (fun q => c3 q.2.2)]
          exact ih
      · rw [if_neg (fun e => c2 ((jI_eq (by omega) (by omega) (by omega) (by omega)).mp e)), if_neg (fun q => c2 q.2.1)]
        exact ih)
  exact key
theorem vc_swp {gh : Nat} {x : Nat} {K : XK} {h : XH} {w : Nat → Int} (I : Cv gh x K h w) {p : Nat} (hp : (p : Int) < w 1) (hq : 0 < w (290 + 81 * p + 3)) {pl ro : Int} (h1 : 0 ≤ pl ∧ pl ≤ 60) (h2 : 0 ≤ ro ∧ ro < w (290 + 81 * p + 6)) (hc : pl * w (290 + 81 * p + 6) + ro < w (290 + 81 * p + 2)) : f_X6_swappedWith x h (x + 13 + 6 + 3 * p) (jI pl) (jI ro) = jI (sp_ w p pl ro) := by
  obtain ⟨-, -, -, -, -, -, p7, p8, -, -, p11, p12, -⟩ := I.wp hp
  obtain ⟨k1, k2, k3, k4, k5, k6⟩ := I.pk hp
  have l3 := (k6 hq).2.2.1
  have hm := mp_b p11 p12 (by omega : -1 ≤ pl) h1.2
  have hm0 := hm.2.2 h1.1
  have cw := cw_p (w := w) (p := p) (pl := pl) (ro := ro + 1) h1.1
  generalize hC : (if w (290 + 81 * p + 6) ≤ w (290 + 81 * p + 2) - pl * w (290 + 81 * p + 6) then w (290 + 81 * p + 6) else w (290 + 81 * p + 2) - pl * w (290 + 81 * p + 6)) = C
  have ca : f_X2_cardsAt (x + 13 + 6 + 3 * p) h (jI pl) = jI C := by
    unfold f_X2_cardsAt f_J9_min_7cf53
    rw [l3, k3, jI_mul, jI_sub, ← hC]
    by_cases e : w (290 + 81 * p + 6) ≤ w (290 + 81 * p + 2) - pl * w (290 + 81 * p + 6)
    · rw [if_pos e]
      by_cases e2 : w (290 + 81 * p + 2) - pl * w (290 + 81 * p + 6) < w (290 + 81 * p + 6)
      · omega
      · split
        · rename_i q
          first | rfl | (have := (jI_lt (by omega) (by omega) (by omega) (by omega)).mp q; first | omega | (congr 1; omega))
        · rename_i q
          first | rfl | (congr 1; have : ¬ _ := fun z => q ((jI_lt (by omega) (by omega) (by omega) (by omega)).mpr z); omega)
    · rw [if_neg e]
      split
      · rename_i q
        first | rfl | (have := (jI_lt (by omega) (by omega) (by omega) (by omega)).mp q; first | omega | (congr 1; omega))
      · rename_i q
        first | rfl | (congr 1; have : ¬ _ := fun z => q ((jI_lt (by omega) (by omega) (by omega) (by omega)).mpr z); omega)
  have hCb : 1 ≤ C ∧ C ≤ 3 ∧ ro < C ∧ (ro + 1 < C ↔ 0 ≤ cw_ w p pl (ro + 1)) := by
    rw [cw, ← hC]
    split <;> omega
  unfold f_X6_swappedWith sp_
  rw [ca, show (1 : Int32) = jI 1 from rfl, jI_add]
  by_cases c1 : 2 ≤ C
  · rw [if_pos (show (2 : Int32) ≤ jI C from (jI_le (a := 2) (by omega) (by omega) (by omega) (by omega)).mpr c1)]
    by_cases c2 : ro + 1 < C
    · rw [if_neg (fun e => absurd ((jI_le (by omega) (by omega) (by omega) (by omega)).mp e) (by omega)), vc_cw I hp hq (by omega) (by omega), if_pos (hCb.2.2.2.mp c2), if_neg (by omega)]
    · rw [if_pos ((jI_le (by omega) (by omega) (by omega) (by omega)).mpr (by omega)), show (0 : Int32) = jI 0 from rfl, vc_cw I hp hq (by omega) (by omega), if_neg (fun q => c2 (hCb.2.2.2.mpr q)), if_neg (by omega)]
  · rw [if_neg (show ¬ (2 : Int32) ≤ jI C from fun e => c1 ((jI_le (a := 2) (by omega) (by omega) (by omega) (by omega)).mp e)), if_neg (fun q => absurd (hCb.2.2.2.mpr q) (by omega)), if_pos (by omega)]
    rfl
theorem vsl_b {gh : Nat} {x : Nat} {K : XK} {h : XH} {w : Nat → Int} (I : Cv gh x K h w) {p : Nat} {i k : Int} : -1 ≤ sl_ w p i k ∧ sl_ w p i k < 52 := by
  have w1 := I.w1
  have := vgo_b I (p := p) (dr := w (290 + 81 * p + 5) + i / w (290 + 81 * p + 6)) (ro := i % w (290 + 81 * p + 6)) (w 1).toNat (by omega)
  unfold sl_
  split
  · exact ⟨this.2.2.1, this.2.2.2.1⟩
  · split
    · exact al_b _ _
    · split
      · exact sp_b
      · exact sf_b
theorem vc_find {gh : Nat} {x : Nat} {K : XK} {h : XH} {w : Nat → Int} (I : Cv gh x K h w) {p : Nat} (hp : (p : Int) < w 1) (hq : 0 < w (290 + 81 * p + 3)) {i : Int} (hi : 0 ≤ i ∧ i < w (290 + 81 * p + 2)) :
    ∃ h2, f_X6_find x h (jI p) (jI i) = some h2 ∧ (∀ a, a ≠ x + 50 → h2.1 a = h.1 a) ∧ h2.2 = h.2 ∧ ∀ k : Int, 2 ≤ k → k ≤ 5 → h2.1 (x + 50) k.toNat = jI (sl_ w p i k) := by
  have w1 := I.w1
  obtain ⟨tm, q, P1, P2, P3, P4, P5, P6, P7⟩ := I.put hp hq
  obtain ⟨b1, b2, b3, b6, b7, b8, -⟩ := id P2
  obtain ⟨-, -, -, -, -, -, p7, p8, -⟩ := I.wp hp
  have pcb := vpc_b I hp
  obtain ⟨-, -, -, -, -, n6, n7, n8, n9, n10⟩ := nm_ (per := w (290 + 81 * p + 6)) (i := i) (n := w (290 + 81 * p + 2)) b6 b7 hi.1
  have ni : i / w (290 + 81 * p + 6) < pc_ w p := n10 hi.2
  obtain ⟨cp, cr⟩ := vc_plc I hp hq (i := i) (by omega)
  have dm : i / w (290 + 81 * p + 6) * w (290 + 81 * p + 6) + i % w (290 + 81 * p + 6) = i := by
    have := Int.mul_ediv_add_emod i (w (290 + 81 * p + 6))
    rw [Int.mul_comm]
    exact this
  have on := vc_cw I hp hq (pl := i / w (290 + 81 * p + 6) + 1) (ro := i % w (290 + 81 * p + 6)) (by omega) (by omega)
  have onb := cw_b (w := w) (p := p) (pl := i / w (290 + 81 * p + 6) + 1) (ro := i % w (290 + 81 * p + 6))
  have gs := vc_gho I hp hq (dr := w (290 + 81 * p + 5) + i / w (290 + 81 * p + 6)) (ro := i % w (290 + 81 * p + 6)) (by omega) (by omega)
  generalize hG : (go_ w p (w (290 + 81 * p + 5) + i / w (290 + 81 * p + 6)) (i % w (290 + 81 * p + 6)) (w 1).toNat).2 = G at gs
  have F1 : Fr x h (x_i h (x + 50) 2 (jI G)) := Fr.i (by decide)
  have as := vc_ali (I.fr F1) (p := p) (by rw [(rfl : w = w)]; exact hp) (by rw [(rfl : w = w)]; exact hq) (pl := i / w (290 + 81 * p + 6)) (ro := i % w (290 + 81 * p + 6)) (by rw [(rfl : w = w)]; exact ⟨n8, ni⟩) (by omega)
  rw [(rfl : w = w)] at as
  generalize hA : al_ w p (i / w (290 + 81 * p + 6)) (i % w (290 + 81 * p + 6)) (pc_ w p).toNat 0 = A at as
  have F2 : Fr x h (x_i (x_i h (x + 50) 2 (jI G)) (x + 50) 3 (jI A)) := F1.tr (Fr.i (by decide))
  have sw := vc_swp (I.fr F2) (p := p) (by rw [(rfl : w = w)]; exact hp) (by rw [(rfl : w = w)]; exact hq) (pl := i / w (290 + 81 * p + 6)) (ro := i % w (290 + 81 * p + 6)) (by omega) (by rw [(rfl : w = w)]; exact ⟨n6, n7⟩) (by rw [(rfl : w = w), dm]; exact hi.2)
  rw [(rfl : w = w)] at sw
  generalize hS : sp_ w p (i / w (290 + 81 * p + 6)) (i % w (290 + 81 * p + 6)) = S at sw
  have F3 : Fr x h (x_i (x_i (x_i h (x + 50) 2 (jI G)) (x + 50) 3 (jI A)) (x + 50) 4 (jI S)) := F2.tr (Fr.i (by decide))
  have bk := vc_cw (I.fr F3) (p := p) (by rw [(rfl : w = w)]; exact hp) (by rw [(rfl : w = w)]; exact hq) (pl := i / w (290 + 81 * p + 6) - 1) (ro := i % w (290 + 81 * p + 6)) (by omega) (by omega)
  rw [(rfl : w = w)] at bk
  have t2 : (2 : Int32).toNatClampNeg = 2 := rfl
  have t3 : (3 : Int32).toNatClampNeg = 3 := rfl
  have t4 : (4 : Int32).toNatClampNeg = 4 := rfl
  have t5 : (5 : Int32).toNatClampNeg = 5 := rfl
  have e5 : (if jI (cw_ w p (i / w (290 + 81 * p + 6) + 1) (i % w (290 + 81 * p + 6))) = (-1 : Int32) then jI (cw_ w p (i / w (290 + 81 * p + 6) - 1) (i % w (290 + 81 * p + 6))) else jI (cw_ w p (i / w (290 + 81 * p + 6) + 1) (i % w (290 + 81 * p + 6)))) = jI (sf_ w p (i / w (290 + 81 * p + 6)) (i % w (290 + 81 * p + 6))) := by
    unfold sf_
    by_cases e : 0 ≤ cw_ w p (i / w (290 + 81 * p + 6) + 1) (i % w (290 + 81 * p + 6))
    · rw [if_pos e, if_neg (fun q => absurd ((jm1 (by omega) (by omega)).mp q) (by omega))]
    · rw [if_neg e, if_pos ((jm1 (by omega) (by omega)).mpr (by omega))]
  refine ⟨x_i (x_i (x_i (x_i h (x + 50) 2 (jI G)) (x + 50) 3 (jI A)) (x + 50) 4 (jI S)) (x + 50) 5 (jI (sf_ w p (i / w (290 + 81 * p + 6)) (i % w (290 + 81 * p + 6)))), ?_, fun a ha => ?_, rfl, fun k k1 k2 => ?_⟩
  · unfold f_X6_find
    rw [if_pos (jI_b (by omega) (by omega) (by omega)), nat_ (by omega), cp, Option.bind_some, cr, Option.bind_some, show (1 : Int32) = jI 1 from rfl, jI_add, on, xl_, P1.2.1, jI_add, gs, Option.bind_some, if_pos (by decide), xl_, t2, as, Option.bind_some, if_pos (by decide), xl_, t3, if_pos (by decide), xl_, t4, sw, if_pos (by decide), xl_, t5, jI_sub, bk, show -jI 1 = (-1 : Int32) by decide, e5]
  · simp only [gi_n ha]
  · unfold sl_
    rw [hG, hA, hS]
    rcases (show k = 2 ∨ k = 3 ∨ k = 4 ∨ k = 5 by omega) with e | e | e | e <;> subst e <;> simp [gi_]
theorem vc_kind {gh : Nat} {x : Nat} {K : XK} {h : XH} {w : Nat → Int} (I : Cv gh x K h w) {p : Nat} (hp : (p : Int) < w 1) (hq : 0 < w (290 + 81 * p + 3)) {i : Int} (hi : 0 ≤ i ∧ i < w (290 + 81 * p + 2)) :
    ∃ h2, f_X6_kindOf x h (jI p) (jI i) = some (jI (kd_ w p i), h2) ∧ (∀ a, a ≠ x + 50 → h2.1 a = h.1 a) ∧ h2.2 = h.2 := by
  have w1 := I.w1
  obtain ⟨-, -, -, -, -, -, p7, p8, -, -, -, -, p13, -⟩ := I.wp hp
  have sd : h.1 (x + 13 + 6 + 3 * p + 2) i.toNat = jI (w (290 + 81 * p + 29 + i.toNat)) := (I.pk hp).2.2.2.2.1 i.toNat (by omega)
  have sb := p13 i.toNat (by omega)
  have cc := vc_card I hp (i := i) (by omega)
  have cb := cd_b w p i
  have ne : f_X6_kindOf x h (jI p) (jI i) = if jI (w (290 + 81 * p + 29 + i.toNat)) = jI (cd_ w p i) then some (0, h) else if jI (w (290 + 81 * p + 29 + i.toNat)) = -1 then some (1, h) else Option.bind (f_X6_find x h (jI p) (jI i)) (fun h4 => f_X6_kindOf_47 x x_FU h4 (jI (w (290 + 81 * p + 29 + i.toNat))) 2) := by
    unfold f_X6_kindOf
    rw [if_pos (jI_b (by omega) (by omega) (by omega)), if_pos (jI_b (by omega) (by omega) (by omega)), xl_, nat_ (by omega), jI_nat (by omega) (by omega), sd, cc]
  unfold kd_
  by_cases c1 : w (290 + 81 * p + 29 + i.toNat) = cd_ w p i
  · exact ⟨h, by rw [ne, if_pos (by rw [c1]), if_pos c1]; rfl, fun _ _ => rfl, rfl⟩
  · rw [if_neg (fun e => c1 ((jI_eq (by omega) (by omega) (by omega) (by omega)).mp e))] at ne
    by_cases c2 : w (290 + 81 * p + 29 + i.toNat) < 0
    · exact ⟨h, by rw [ne, if_pos ((jm1 (by omega) (by omega)).mpr (by omega)), if_neg c1, if_pos c2]; rfl, fun _ _ => rfl, rfl⟩
    · obtain ⟨h2, f1, f2, f3, f4⟩ := vc_find I hp hq hi
      refine ⟨h2, ?_, f2, f3⟩
      rw [ne, if_neg (fun e => absurd ((jm1 (by omega) (by omega)).mp e) (by omega)), if_neg c1, if_neg c2, f1, Option.bind_some]
      refine x_up0 (P := fun m n => f_X6_kindOf_47 x m h2 (jI (w (290 + 81 * p + 29 + i.toNat))) (jI ((n : Int) + 2)) = some (jI (kf_ (sl_ w p i) (w (290 + 81 * p + 29 + i.toNat)) (4 - n) ((n : Int) + 2)), h2)) 4 (by omega) (fun m => by
        unfold f_X6_kindOf_47
        rw [if_pos (by decide)]
        rfl) (fun m n hn ih => by
        have sb2 := vsl_b I (p := p) (i := i) (k := (n : Int) + 2)
        unfold f_X6_kindOf_47
        rw [if_neg (show ¬ (5 : Int32) < jI ((n : Int) + 2) from fun e => absurd ((jI_lt (a := 5) (by omega) (by omega) (by omega) (by omega)).mp e) (by omega)), if_pos (jI_b (by omega) (by omega) (by omega)), jI_nat (by omega) (by omega), f4 _ (by omega) (by omega), show 4 - n = 4 - (n + 1) + 1 by omega]
        unfold kf_
        by_cases c3 : sl_ w p i ((n : Int) + 2) = w (290 + 81 * p + 29 + i.toNat)
        · rw [if_pos (by rw [c3]), if_pos c3]
        · rw [if_neg (fun e => c3 ((jI_eq (by omega) (by omega) (by omega) (by omega)).mp e)), if_neg c3, show (1 : Int32) = jI 1 from rfl, jI_add]
          rw [show ((n + 1 : Nat) : Int) + 2 = (n : Int) + 2 + 1 by omega] at ih
          exact ih)
theorem vc_rgt {gh : Nat} {x : Nat} {K : XK} {h : XH} {w : Nat → Int} (I : Cv gh x K h w) {p : Nat} (hp : (p : Int) < w 1) : f_X2_rightOnes (x + 13 + 6 + 3 * p) h = some (jI (kn_ w p 0 (w (290 + 81 * p + 2)).toNat)) := by
  obtain ⟨-, -, -, -, -, -, p7, p8, -, -, -, -, p13, -⟩ := I.wp hp
  have k3 := (I.pk hp).2.2.1
  refine x_up0 (P := fun m n => f_X2_rightOnes_4 (x + 13 + 6 + 3 * p) h m (jI (kn_ w p 0 n)) (jI (n : Int)) = some (jI (kn_ w p 0 (w (290 + 81 * p + 2)).toNat))) (w (290 + 81 * p + 2)).toNat (by omega) (fun m => by
    unfold f_X2_rightOnes_4
    rw [k3, if_pos ((jI_le (by omega) (by omega) (by omega) (by omega)).mpr (by omega))]) (fun m n hn ih => by
    have sd : h.1 (x + 13 + 6 + 3 * p + 2) n = jI (w (290 + 81 * p + 29 + n)) := (I.pk hp).2.2.2.2.1 n (by omega)
    have sb := p13 n (by omega)
    have cb := cd_b w p n
    have a1 : jI (n : Int) + 1 = jI ((n + 1 : Nat) : Int) := by
      rw [show (1 : Int32) = jI 1 from rfl, jI_add]
      rfl
    have k0 := kd_0 (w := w) (p := p) (i := (n : Int))
    rw [Int.toNat_natCast] at k0
    unfold f_X2_rightOnes_4
    rw [k3, if_neg (fun e => absurd ((jI_le (by omega) (by omega) (by omega) (by omega)).mp e) (by omega)), if_pos (jI_b (by omega) (by omega) (by omega)), xl_, nat_ (by omega), sd, vc_card I hp (by omega), a1]
    have e : jI (kn_ w p 0 n) + (if jI (w (290 + 81 * p + 29 + n)) = jI (cd_ w p n) then (1 : Int32) else 0) = jI (kn_ w p 0 (n + 1)) := by
      unfold kn_
      rw [sm_s, ← jI_add]
      congr 1
      by_cases c : w (290 + 81 * p + 29 + n) = cd_ w p n
      · rw [if_pos (by rw [c]), if_pos (k0.mpr c)]; rfl
      · rw [if_neg (fun e => c ((jI_eq (by omega) (by omega) (by omega) (by omega)).mp e)), if_neg (fun e => c (k0.mp e))]; rfl
    rw [e]
    exact ih)
