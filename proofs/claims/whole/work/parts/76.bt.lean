/-! ===== bits ===== -/
def bi_ (v : Int32) (c : Nat) : Bool := v.toBitVec.getLsbD c
def bl_ (v : Int64) (c : Nat) : Bool := v.toBitVec.getLsbD c
theorem bi_or {a b : Int32} {c : Nat} : bi_ (a ||| b) c = (bi_ a c || bi_ b c) := by
  simp [bi_]
theorem bl_or {a b : Int64} {c : Nat} : bl_ (a ||| b) c = (bl_ a c || bl_ b c) := by
  simp [bl_]
theorem bi_0 {c : Nat} : bi_ 0 c = false := by
  show (0#32).getLsbD c = false
  exact BitVec.getLsbD_zero
theorem bl_0 {c : Nat} : bl_ 0 c = false := by
  show (0#64).getLsbD c = false
  exact BitVec.getLsbD_zero
theorem s32_ : ∀ c : Fin 32, ((jI (c.val : Int) &&& 31).toBitVec.smod 32).toNat = c.val := by decide
theorem s64_ : ∀ c : Fin 64, (((jI (c.val : Int)).toInt64 &&& 63).toBitVec.smod 64).toNat = c.val := by decide
theorem bi_a1 {v : Int32} : v &&& 1 = if bi_ v 0 = true then 1 else 0 := by
  rw [← Int32.toBitVec_inj]
  have e : (v &&& 1).toBitVec = v.toBitVec &&& 1#32 := rfl
  rw [e, BitVec.and_one_eq_setWidth_ofBool_getLsbD]
  unfold bi_
  cases v.toBitVec.getLsbD 0 <;> rfl
theorem bl_a1 {v : Int64} : v &&& 1 = if bl_ v 0 = true then 1 else 0 := by
  rw [← Int64.toBitVec_inj]
  have e : (v &&& 1).toBitVec = v.toBitVec &&& 1#64 := rfl
  rw [e, BitVec.and_one_eq_setWidth_ofBool_getLsbD]
  unfold bl_
  cases v.toBitVec.getLsbD 0 <;> rfl
theorem bi_sr {v : Int32} {c i : Nat} (hc : c + i < 32) : bi_ (x_shr v (jI (c : Int))) i = bi_ v (c + i) := by
  have e : (x_shr v (jI (c : Int))).toBitVec = v.toBitVec.sshiftRight c := by
    show v.toBitVec.sshiftRight ((jI (c : Int) &&& 31).toBitVec.smod 32).toNat = _
    rw [s32_ ⟨c, by omega⟩]
  unfold bi_
  rw [e, BitVec.getLsbD_sshiftRight, if_pos hc]
  have : ¬ 32 ≤ i := by omega
  simp [this]
theorem bl_sr {v : Int64} {c i : Nat} (hc : c + i < 64) : bl_ (x_lshr v (jI (c : Int))) i = bl_ v (c + i) := by
  have e : (x_lshr v (jI (c : Int))).toBitVec = v.toBitVec.sshiftRight c := by
    show v.toBitVec.sshiftRight (((jI (c : Int)).toInt64 &&& 63).toBitVec.smod 64).toNat = _
    rw [s64_ ⟨c, by omega⟩]
  unfold bl_
  rw [e, BitVec.getLsbD_sshiftRight, if_pos hc]
  have : ¬ 64 ≤ i := by omega
  simp [this]
theorem bi_at {v : Int32} {c : Nat} (hc : c < 32) : x_shr v (jI (c : Int)) &&& 1 = if bi_ v c = true then 1 else 0 := by
  rw [bi_a1, bi_sr (by omega)]
  rfl
theorem bl_at {v : Int64} {c : Nat} (hc : c < 64) : x_lshr v (jI (c : Int)) &&& 1 = if bl_ v c = true then 1 else 0 := by
  rw [bl_a1, bl_sr (by omega)]
  rfl
theorem bi_one {s c : Nat} (hs : s < 32) (hc : c < 32) : bi_ (x_shl 1 (jI (s : Int))) c = decide (c = s) := by
  have e : (x_shl 1 (jI (s : Int))).toBitVec = 1#32 <<< s := by
    show 1#32 <<< ((jI (s : Int) &&& 31).toBitVec.smod 32).toNat = _
    rw [s32_ ⟨s, hs⟩]
  unfold bi_
  rw [e, BitVec.getLsbD_shiftLeft, BitVec.getLsbD_one]
  simp only [hc, decide_true, Bool.true_and, show (0 : Nat) < 32 by decide]
  by_cases q : c = s
  · subst q; simp
  · simp [q]; omega
theorem bl_one {s c : Nat} (hs : s < 64) (hc : c < 64) : bl_ (x_lshl 1 (jI (s : Int))) c = decide (c = s) := by
  have e : (x_lshl 1 (jI (s : Int))).toBitVec = 1#64 <<< s := by
    show 1#64 <<< (((jI (s : Int)).toInt64 &&& 63).toBitVec.smod 64).toNat = _
    rw [s64_ ⟨s, hs⟩]
  unfold bl_
  rw [e, BitVec.getLsbD_shiftLeft, BitVec.getLsbD_one]
  simp only [hc, decide_true, Bool.true_and, show (0 : Nat) < 64 by decide]
  by_cases q : c = s
  · subst q; simp
  · simp [q]; omega
theorem lgc0 {a : Int64} : lg_cmp a 0 = 0 ↔ a = 0 := by
  unfold lg_cmp
  constructor
  · intro e
    by_cases c : a = 0
    · exact c
    · exfalso
      revert e
      split <;> simp_all
  · intro e
    subst e
    decide
