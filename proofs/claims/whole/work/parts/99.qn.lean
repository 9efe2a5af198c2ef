/-! ===== the reference keeps a text ===== -/
def rb9_ (x : Nat) (L : Nat) (ru : Bool) (H : XH) : XH := x_i (x_i (x_i (x_i (x_i (x_i H (x + 64) 0 (jI 0)) (x + 64) 7 (jI (L : Int))) (x + 64) 5 (jI 0)) (x + 64) 6 (jI 0)) (x + 64) 12 (jI 0)) (x + 64) 13 (bb9 ru)
theorem rb9_n {x L : Nat} {ru : Bool} {H : XH} {a : Nat} (h : a ≠ x + 64) : (rb9_ x L ru H).1 a = H.1 a := by
  unfold rb9_
  rw [gi_n h, gi_n h, gi_n h, gi_n h, gi_n h, gi_n h]
theorem rb9_m {x L : Nat} {ru : Bool} {H : XH} : (rb9_ x L ru H).1 (x + 64) 7 = jI L ∧ (rb9_ x L ru H).1 (x + 64) 13 = bb9 ru ∧ (rb9_ x L ru H).1 (x + 64) 6 = jI 0 ∧ (rb9_ x L ru H).1 (x + 64) 12 = jI 0 ∧ (rb9_ x L ru H).1 (x + 64) 5 = jI 0 ∧ (rb9_ x L ru H).1 (x + 64) 0 = jI 0 ∧ (rb9_ x L ru H).1 (x + 64) 3 = H.1 (x + 64) 3 ∧ (rb9_ x L ru H).2 = H.2 := by
  unfold rb9_
  refine ⟨?_, ?_, ?_, ?_, ?_, ?_, ?_, rfl⟩ <;> simp [gi_]
theorem rb9_T {x L : Nat} {V : Nat → Int} {ru : Bool} {H : XH} (L4 : L ≤ 400) (v : ∀ k, k < L → H.1 (x + 67) k = jI (if V k < 128 then V k else V k - 256)) (b : ∀ k, k < L → 0 ≤ V k ∧ V k < 256) : TpR x V L ru (rb9_ x L ru H) :=
  ⟨rb9_m.1, rb9_m.2.1, L4, fun k hk => by rw [rb9_n (by omega)]; exact v k hk, b⟩
theorem r_kp {x L : Nat} {ru : Bool} {H : XH} {v2 v3 v4 : Int32} (h5 : H.1 (x + 64) 5 = jI L) : f_X12_keeps x H (bb9 ru) v2 v3 v4 = Option.bind (f_X12_readAll x (rb9_ x L ru H)) (fun q8 => x_let (x_i q8.2 (x + 64) 10 (if 0 ≤ q8.1 then (-1) else (q8.2.1 (x + 64) 8))) (fun h10 => Option.bind (f_X12_throwsIf x h10 (if 0 ≤ q8.1 then 0 else 1) 1) (fun q12 => if q12.1 = 0 then if x_b v2 6927 = true then Option.bind (f_X12_throwsIf x q12.2 (if (q12.2.1 (x + 65) v2.toNatClampNeg) = v4 then 1 else 0) 2) (fun q15 => if q15.1 = 0 then if x_b v2 6927 = true then x_let ((v3 + (q15.2.1 (x + 65) v2.toNatClampNeg)) : Int32) (fun t17 => f_X12_keeps_113 x x_FU q15.2 v2 q8.1 t17 0) else none else f_X12_keeps_98 x q15.2) else none else f_X12_keeps_98 x q12.2))) := by
  unfold f_X12_keeps
  rw [xl_, xl_, xl_, xl_, xl_, if_pos (ib9 ru), xl_, gi_k (show (5 : Nat) ≠ 0 by omega), h5]
  rfl
/-- a wrong text -/
theorem r_kpA {x L : Nat} {ru : Bool} {H r' : XH} {v2 v3 v4 : Int32} (h5 : H.1 (x + 64) 5 = jI L) (e : f_X12_readAll x (rb9_ x L ru H) = some (jI (-1), r')) : f_X12_keeps x H (bb9 ru) v2 v3 v4 = some (0, x_i (x_i r' (x + 64) 10 (r'.1 (x + 64) 8)) (x + 64) 0 (jI 1)) := by
  rw [r_kp h5, e, Option.bind_some, xl_]
  dsimp only
  rw [if_neg (show ¬ (0 : Int32) ≤ jI (-1) by decide), if_neg (show ¬ (0 : Int32) ≤ jI (-1) by decide), show f_X12_throwsIf x (x_i r' (x + 64) 10 (r'.1 (x + 64) 8)) 1 1 = _ from tvo, Option.bind_some, if_neg (show ¬ jI 1 = (0 : Int32) by decide)]
  rfl
/-- there is no room for it -/
theorem r_kpB {x L i' v2 : Nat} {ru : Bool} {H r' : XH} {v3 : Int32} (h5 : H.1 (x + 64) 5 = jI L) (hi : i' ≤ 10) (hv : v2 < 8) (e : f_X12_readAll x (rb9_ x L ru H) = some (jI (i' : Int), r')) (hw : r'.1 (x + 65) v2 = jI 3) : f_X12_keeps x H (bb9 ru) (jI (v2 : Int)) v3 3 = some (0, x_i (x_i r' (x + 64) 10 (jI (-1))) (x + 64) 0 (jI 2)) := by
  have g : (0 : Int32) ≤ jI (i' : Int) := (jge0 (by omega) (by omega)).mpr (by omega)
  rw [r_kp h5, e, Option.bind_some, xl_]
  dsimp only
  rw [if_pos g, if_pos g, m1_, show f_X12_throwsIf x (x_i r' (x + 64) 10 (jI (-1))) 0 1 = _ from tvz, Option.bind_some, if_pos (show jI 0 = (0 : Int32) from rfl), if_pos (jI_b (by omega) (by omega) (by omega)), nat_ (by omega), gi_a (by omega), hw, if_pos (show jI 3 = (3 : Int32) from rfl), show f_X12_throwsIf x (x_i r' (x + 64) 10 (jI (-1))) 1 2 = _ from tvo, Option.bind_some, if_neg (show ¬ jI 1 = (0 : Int32) by decide)]
  rfl
/-- it is kept -/
theorem r_kpC {x L i' v2 t : Nat} {ru : Bool} {H r' : XH} {v3 cn : Int} (h5 : H.1 (x + 64) 5 = jI L) (hi : i' ≤ 10) (hv : v2 < 8) (e : f_X12_readAll x (rb9_ x L ru H) = some (jI (i' : Int), r')) (hw : r'.1 (x + 65) v2 = jI cn) (c0 : 0 ≤ cn) (c3 : cn < 3) (ht : v3 + cn = t) (t6 : t < 6) :
    ∃ h', f_X12_keeps x H (bb9 ru) (jI (v2 : Int)) (jI v3) 3 = some (jI cn, x_i (x_i h' (x + 65) (970 + 851 * t) (jI (i' : Int))) (x + 65) v2 (jI (cn + 1))) ∧ (∀ q, q < 851 → h'.1 (x + 65) (970 + 851 * t + q) = r'.1 (x + 65) (6076 + q)) ∧ (∀ q, (q < 970 + 851 * t ∨ 970 + 851 * t + 851 ≤ q) → h'.1 (x + 65) q = r'.1 (x + 65) q) ∧ (∀ a, a ≠ x + 65 → h'.1 a = (x_i r' (x + 64) 10 (jI (-1))).1 a) ∧ h'.2 = r'.2 := by
  have g : (0 : Int32) ≤ jI (i' : Int) := (jge0 (by omega) (by omega)).mpr (by omega)
  have w1 : (x_i r' (x + 64) 10 (jI (-1))).1 (x + 65) v2 = jI cn := by rw [gi_a (by omega)]; exact hw
  obtain ⟨h', k1, k2, k3, k4, k5⟩ := r_113 (x := x) (t := t) (i' := i') (h := x_i r' (x + 64) 10 (jI (-1))) (v2 := v2) t6 hv
  refine ⟨h', ?_, fun q hq => by rw [k2 q hq, gi_a (by omega)], fun q hq => by rw [k3 q hq, gi_a (by omega)], k4, k5⟩
  rw [w1, show (1 : Int32) = jI 1 from rfl, jI_add, jI_sub, show cn + 1 - 1 = cn by omega] at k1
  have n3 : ¬ jI cn = (3 : Int32) := fun q => absurd ((jI_eq (b := 3) (by omega) (by omega) (by omega) (by omega)).mp q) (by omega)
  rw [r_kp h5, e, Option.bind_some, xl_]
  dsimp only
  rw [if_pos g, if_pos g, m1_, show f_X12_throwsIf x (x_i r' (x + 64) 10 (jI (-1))) 0 1 = _ from tvz, Option.bind_some, if_pos (show jI 0 = (0 : Int32) from rfl), if_pos (jI_b (by omega) (by omega) (by omega)), nat_ (by omega), w1, if_neg n3, show f_X12_throwsIf x (x_i r' (x + 64) 10 (jI (-1))) 0 2 = _ from tvz, Option.bind_some, if_pos (show jI 0 = (0 : Int32) from rfl), if_pos (jI_b (by omega) (by omega) (by omega)), xl_]
  dsimp only
  rw [w1, jI_add, ht, k1]
