/-! ===== bytes of a number ===== -/
theorem by_u (v : Int32) (s : Nat) (hs : s = 0 ∨ s = 8 ∨ s = 16 ∨ s = 24) : ((x_ushr v (Int32.ofNat s)) &&& 255).toBitVec = (v.toBitVec >>> s) &&& 255#32 := by
  rcases hs with e | e | e | e <;> subst e <;> simp [x_ushr] <;> rfl
theorem by_w (b : BitVec 32) : b.signExtend 8 = b.setWidth 8 := by
  apply BitVec.eq_of_getLsbD_eq
  intro i hi
  rw [BitVec.getLsbD_signExtend, BitVec.getLsbD_setWidth, if_pos (show i < 32 by omega)]
theorem by_s (v : Int32) (s : Nat) (hs : s = 0 ∨ s = 8 ∨ s = 16 ∨ s = 24) : (((x_shr v (Int32.ofNat s)).toInt8.toInt32).toInt8.toInt32).toBitVec = ((v.toBitVec.sshiftRight s).setWidth 8).signExtend 32 := by
  rcases hs with e | e | e | e <;> subst e <;> simp [x_shr] <;> rw [by_w] <;> rfl
theorem by_k (b : BitVec 32) (s : Nat) (hs : s ≤ 24) : (b.sshiftRight s).setWidth 8 = (b >>> s).setWidth 8 := by
  apply BitVec.eq_of_getLsbD_eq
  intro i hi
  have h1 : ¬ 32 ≤ i := by omega
  have h2 : s + i < 32 := by omega
  simp [BitVec.getLsbD_setWidth, BitVec.getLsbD_sshiftRight, BitVec.getLsbD_ushiftRight, h1, h2]
theorem by_ (v : Int32) (s : Nat) (hs : s = 0 ∨ s = 8 ∨ s = 16 ∨ s = 24) : ∃ z : Int, 0 ≤ z ∧ z < 256 ∧ (x_ushr v (Int32.ofNat s)) &&& 255 = jI z ∧ ((x_shr v (Int32.ofNat s)).toInt8.toInt32).toInt8.toInt32 = jI (if z < 128 then z else z - 256) := by
  have n8 : ((v.toBitVec >>> s) &&& 255#32).toNat = (v.toBitVec >>> s).toNat % 256 := by
    rw [BitVec.toNat_and]
    exact Nat.and_two_pow_sub_one_eq_mod _ 8
  have lt : (v.toBitVec >>> s).toNat % 256 < 256 := Nat.mod_lt _ (by decide)
  have a1 : ((x_ushr v (Int32.ofNat s)) &&& 255).toInt = ((v.toBitVec >>> s).toNat % 256 : Nat) := by
    show ((x_ushr v (Int32.ofNat s)) &&& 255).toBitVec.toInt = _
    rw [by_u v s hs, BitVec.toInt_eq_toNat_cond, n8, if_pos (by omega)]
  have a2 : (((x_shr v (Int32.ofNat s)).toInt8.toInt32).toInt8.toInt32).toInt = if (((v.toBitVec >>> s).toNat % 256 : Nat) : Int) < 128 then (((v.toBitVec >>> s).toNat % 256 : Nat) : Int) else (((v.toBitVec >>> s).toNat % 256 : Nat) : Int) - 256 := by
    show (((x_shr v (Int32.ofNat s)).toInt8.toInt32).toInt8.toInt32).toBitVec.toInt = _
    rw [by_s v s hs, BitVec.toInt_signExtend_of_le (by decide), by_k _ _ (by omega), BitVec.toInt_eq_toNat_cond, BitVec.toNat_setWidth]
    by_cases c : (v.toBitVec >>> s).toNat % 256 < 128
    · rw [if_pos (by omega), if_pos (by omega)]
    · rw [if_neg (by omega), if_neg (by omega)]; rfl
  refine ⟨((v.toBitVec >>> s).toNat % 256 : Nat), by omega, by omega, ?_, ?_⟩
  · rw [← a1]; exact jI_of _
  · rw [← a2]; exact jI_of _
