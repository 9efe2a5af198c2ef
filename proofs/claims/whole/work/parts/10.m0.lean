def f_J3_checkIndex_8e157 (h : XH) (v0 : Int32) (v1 : Int32) (v2 : Option Nat) : Option Int32 := if v0 < 0 then none else if v0 < v1 then some v0 else none
set_option maxRecDepth 20000 in
theorem S_J3_checkIndex_8e157 {l : Launch} {O : XO} {K : XK} {h : XH} {v0 : Int32} {v1 : Int32} {v2 : Option Nat}  {r : Int32}  (hf : f_J3_checkIndex_8e157 h v0 v1 v2 = some r) : x_M l O K yJ3_checkIndex_8e157 cJ3_checkIndex_8e157 3 (some .int) 0 0 h [.int v0, .int v1, va_rf v2] (some (.int r)) h := by
  refine x_enterF (by decide +kernel) (by cases v2 <;> exact Nat.le_of_ble_eq_true rfl) (fun p e s m args below meth c C hR ls hl => ?_)
  have hS : va_S (oA O) s.heap s.heap [] := va_S.rf
  have hx := C.1
  have hb := C.2.1
  have hl : lv_has ls 3 [(0, .int v0), (1, .int v1), (2, va_rf v2)] := by cases v2 <;> exact hl
  rw [f_J3_checkIndex_8e157] at hf
  refine lv_iload_n hx hb dJ3_checkIndex_8e157_0 rfl (lv_at hl 0 rfl) ?_
  refine lv_if_lt (tgt := 9) hx hb dJ3_checkIndex_8e157_1 rfl (fun hc => ?_) (fun hc => ?_)
  · have hf := x_ip hc hf
    cases hf
  · have hf := x_in hc hf
    refine lv_iload_n hx hb dJ3_checkIndex_8e157_4 rfl (lv_at hl 0 rfl) ?_
    refine lv_iload_n hx hb dJ3_checkIndex_8e157_5 rfl (lv_at hl 1 rfl) ?_
    refine lv_icmp_lt (tgt := 16) hx hb dJ3_checkIndex_8e157_6 rfl (fun hc => ?_) (fun hc => ?_)
    · have hf := x_ip hc hf
      refine lv_iload_n hx hb dJ3_checkIndex_8e157_16 rfl (lv_at hl 0 rfl) ?_
      cases hf
      exact x_iret C hR hS dJ3_checkIndex_8e157_17
    · have hf := x_in hc hf
      cases hf
def x_ci (a b : Int32) : Bool := decide (¬ a < 0 ∧ a < b)
theorem S_J0_checkIndex_df160 {l : Launch} {O : XO} {K : XK} {h : XH} {v0 v1 : Int32} (g : x_ci v0 v1 = true) : x_M l O K yJ0_checkIndex_df160 cJ0_checkIndex_df160 2 none 1 40 h [.int v0, .int v1] none h := by
  have hg : ¬ v0 < 0 ∧ v0 < v1 := by simpa only [x_ci, decide_eq_true_eq] using g
  refine x_enterF (by decide +kernel) (Nat.le_of_ble_eq_true rfl) (fun p e s m args below meth c C hR ls hl => ?_)
  have hS : va_S (oA O) s.heap s.heap [] := va_S.rf
  have hx := C.1
  have hb := C.2.1
  have hl : lv_has ls 2 [(0, .int v0), (1, .int v1)] := hl
  have hf : ∀ o : Option Nat, f_J3_checkIndex_8e157 h v0 v1 o = some v0 := fun o => by
    rw [f_J3_checkIndex_8e157, if_neg hg.1, if_pos hg.2]
  refine lv_iload_n hx hb dJ0_checkIndex_df160_0 rfl (lv_at hl 0 rfl) ?_
  refine lv_iload_n hx hb dJ0_checkIndex_df160_1 rfl (lv_at hl 1 rfl) ?_
  have kM : ∀ o : Option Nat, W p l e (x_rm 1 40) s m args below meth c s.heap [] 0 0 (MQ below (x_Qc O K h none) args s 0 0 (oA O)) (F0 m 5 ls [va_rf o, .int v1, .int v0]) := fun o => by
    refine x_cSi3 C hR hS (S_J3_checkIndex_8e157 (hf o)) mf_J3_checkIndex_8e157 tw_685 (Nat.le_of_ble_eq_true rfl) (Nat.le_of_ble_eq_true rfl) hl.1 (Nat.le_of_ble_eq_true rfl) dJ0_checkIndex_df160_5 ⟨Nat.le_refl _, Nat.le_refl _⟩ (fun H locs hR hS => ?_)
    refine lv_pop hx hb dJ0_checkIndex_df160_8 rfl ?_
    exact x_vret C hR hS dJ0_checkIndex_df160_9
  rcases C.2.2.2.2.2.2.2.2.2.2.2.2.1 with hz | ⟨t, hz⟩
  · exact va_gets hx hb hz hS C.2.2.2.1 (C.2.2.2.2.1 _ tw_683) (fun _ h9 => h9) dJ0_checkIndex_df160_2 (kM none)
  · exact va_gets hx hb hz hS C.2.2.2.1 (C.2.2.2.2.1 _ tw_683) (fun _ h9 => h9) dJ0_checkIndex_df160_2 (kM (some t))
def f_J0_coder_7d493 (v0 : Nat) (h : XH) : Int32 := 0
set_option maxRecDepth 20000 in
theorem S_J0_coder_7d493 {l : Launch} {O : XO} {K : XK} {h : XH} {v0 : Nat}  {r : Int32} (k0 : v0 < 71) (hf : f_J0_coder_7d493 v0 h = r) : x_M l O K yJ0_coder_7d493 cJ0_coder_7d493 1 (some .byte) 0 0 h [.ref (oK O v0)] (some (.int r)) h := by
  refine x_enterF (by decide +kernel) (Nat.le_of_ble_eq_true rfl) (fun p e s m args below meth c C hR ls hl => ?_)
  have hS : va_S (oA O) s.heap s.heap [] := va_S.rf
  have hx := C.1
  have hb := C.2.1
  have hl : lv_has ls 1 [(0, .ref (oK O v0))] := hl
  rw [f_J0_coder_7d493] at hf
  refine va_gets hx hb C.2.2.2.2.2.2.2.2.2.2.2.1 hS C.2.2.2.1 (C.2.2.2.2.1 _ tw_667) (fun _ h9 => h9) dJ0_coder_7d493_0 ?_
  refine lv_if_eq (tgt := 13) hx hb dJ0_coder_7d493_3 rfl (fun hc => ?_) (fun hc => ?_)
  · exact absurd hc (by decide)
  refine lv_aload_n hx hb dJ0_coder_7d493_6 rfl (lv_at hl 0 rfl) ?_
  refine vk_getf hx hb (x_SE C k0).2.1 hS C.2.2.2.1 (C.2.2.2.2.1 _ tw_2129) (fun _ h9 => h9) dJ0_coder_7d493_7 ?_
  refine lv_goto (tgt := 14) hx hb dJ0_coder_7d493_10 rfl ?_
  cases hf
  exact x_bret C hR hS (by decide) dJ0_coder_7d493_14
def f_J0_isLatin1_aae02 (v0 : Nat) (h : XH) : Int32 := 1
set_option maxRecDepth 20000 in
theorem S_J0_isLatin1_aae02 {l : Launch} {O : XO} {K : XK} {h : XH} {v0 : Nat}  {r : Int32} (k0 : v0 < 71) (hf : f_J0_isLatin1_aae02 v0 h = r) : x_M l O K yJ0_isLatin1_aae02 cJ0_isLatin1_aae02 1 (some .boolean) 0 0 h [.ref (oK O v0)] (some (.int r)) h := by
  refine x_enterF (by decide +kernel) (Nat.le_of_ble_eq_true rfl) (fun p e s m args below meth c C hR ls hl => ?_)
  have hS : va_S (oA O) s.heap s.heap [] := va_S.rf
  have hx := C.1
  have hb := C.2.1
  have hl : lv_has ls 1 [(0, .ref (oK O v0))] := hl
  rw [f_J0_isLatin1_aae02] at hf
  refine va_gets hx hb C.2.2.2.2.2.2.2.2.2.2.2.1 hS C.2.2.2.1 (C.2.2.2.2.1 _ tw_667) (fun _ h9 => h9) dJ0_isLatin1_aae02_0 ?_
  refine lv_if_eq (tgt := 17) hx hb dJ0_isLatin1_aae02_3 rfl (fun hc => ?_) (fun hc => ?_)
  · exact absurd hc (by decide)
  refine lv_aload_n hx hb dJ0_isLatin1_aae02_6 rfl (lv_at hl 0 rfl) ?_
  refine vk_getf hx hb (x_SE C k0).2.1 hS C.2.2.2.1 (C.2.2.2.2.1 _ tw_2129) (fun _ h9 => h9) dJ0_isLatin1_aae02_7 ?_
  refine lv_if_ne (tgt := 17) hx hb dJ0_isLatin1_aae02_10 rfl (fun hc => ?_) (fun hc => ?_)
  · exact absurd hc (by decide)
  refine lv_iconst (v := 1) hx hb dJ0_isLatin1_aae02_13 rfl ?_
  refine lv_goto (tgt := 18) hx hb dJ0_isLatin1_aae02_14 rfl ?_
  cases hf
  exact x_zret C hR hS (Or.inr rfl) dJ0_isLatin1_aae02_18
def f_J1_charAt_3b067 (h : XH) (v0 : Nat) (v1 : Int32) : Option Int32 := if x_ci v1 (nI (x_ss.getD v0 []).length) = true then if x_b v1 (x_ss.getD v0 []).length = true then some (((((x_ss.getD v0 []).getD v1.toNatClampNeg 0) &&& 255).toUInt32 % 65536).toInt32) else none else none
set_option maxRecDepth 20000 in
theorem S_J1_charAt_3b067 {l : Launch} {O : XO} {K : XK} {h : XH} {v0 : Nat} {v1 : Int32}  {r : Int32} (k0 : v0 < 71) (hf : f_J1_charAt_3b067 h v0 v1 = some r) : x_M l O K yJ1_charAt_3b067 cJ1_charAt_3b067 2 (some .char) 2 80 h [.ref (oV O v0), .int v1] (some (.int r)) h := by
  refine x_enterF (by decide +kernel) (Nat.le_of_ble_eq_true rfl) (fun p e s m args below meth c C hR ls hl => ?_)
  have hS : va_S (oA O) s.heap s.heap [] := va_S.rf
  have hx := C.1
  have hb := C.2.1
  have hl : lv_has ls 2 [(0, .ref (oV O v0)), (1, .int v1)] := hl
  rw [f_J1_charAt_3b067] at hf
  refine lv_iload_n hx hb dJ1_charAt_3b067_0 rfl (lv_at hl 1 rfl) ?_
  refine lv_aload_n hx hb dJ1_charAt_3b067_1 rfl (lv_at hl 0 rfl) ?_
  refine va_tlen hx hb (x_SE C k0).2.2.2 hS rfl dJ1_charAt_3b067_2 ?_
  obtain ⟨g1, hf⟩ := x_gd hf
  refine x_cSv2 C hR hS (S_J0_checkIndex_df160 g1) mf_J0_checkIndex_df160 tw_680 (Nat.le_of_ble_eq_true rfl) (Nat.le_of_ble_eq_true rfl) hl.1 (Nat.le_of_ble_eq_true rfl) dJ1_charAt_3b067_3 ⟨Nat.le_refl _, Nat.le_refl _⟩ (fun H locs hR hS => ?_)
  refine lv_aload_n hx hb dJ1_charAt_3b067_6 rfl (lv_at hl 0 rfl) ?_
  refine lv_iload_n hx hb dJ1_charAt_3b067_7 rfl (lv_at hl 1 rfl) ?_
  obtain ⟨g2, hf⟩ := x_gd hf
  refine va_tb hx hb (x_SE C k0).2.2.2 hS (x_b_in g2) rfl dJ1_charAt_3b067_8 ?_
  refine lv_sipush (v := 255) hx hb dJ1_charAt_3b067_9 rfl ?_
  refine lv_iand hx hb dJ1_charAt_3b067_12 ?_
  refine lv_i2c hx hb dJ1_charAt_3b067_13 rfl ?_
  cases hf
  exact x_cret C hR hS (pk_nc _) dJ1_charAt_3b067_14
def f_X2_copyFrom (a : Nat) (h : XH) (v1 : Nat) : Option (XH) := x_let (x_i h a 0 (h.1 v1 0)) (fun h1 => x_let (x_i h1 a 1 (h1.1 v1 1)) (fun h2 => x_let (x_i h2 a 2 (h2.1 v1 2)) (fun h3 => if x_isb (h3.1 v1 3) = true then x_let (x_i h3 a 3 (h3.1 v1 3)) (fun h5 => x_let (f_X4_copyFrom (a + 1) h5 (v1 + 1)) (fun h6 => if x_cpok 0 0 52 52 52 = true then x_let (x_cp h6 (v1 + 2) (0 : Int32).toNatClampNeg (a + 2) (0 : Int32).toNatClampNeg (52 : Int32).toNatClampNeg) (fun h8 => some h8) else none)) else none)))
set_option maxRecDepth 20000 in
theorem S_X2_copyFrom {l : Launch} {O : XO} {K : XK} {h : XH} {a : Nat} {v1 : Nat}  {h' : XH} (k0 : K a = (3, 0)) (k1 : K v1 = (3, 0)) (hf : f_X2_copyFrom a h v1 = some h') : x_M l O K yX2_copyFrom cX2_copyFrom 2 none 1 100 h [.ref a, .ref v1] none h' := by
  refine x_enter (by decide) (Nat.le_of_ble_eq_true rfl) (fun p e s m args below meth c C hR ls hl => ?_)
  have hS : va_S (oA O) s.heap s.heap [] := va_S.rf
  have hx := C.1
  have hb := C.2.1
  have hl : lv_has ls 2 [(0, .ref a), (1, .ref v1)] := hl
  rw [f_X2_copyFrom] at hf
  refine lv_aload_n hx hb dX2_copyFrom_0 rfl (lv_at hl 0 rfl) ?_
  refine lv_aload_n hx hb dX2_copyFrom_1 rfl (lv_at hl 1 rfl) ?_
  refine gf_2_0 C hR k1 tw_250 dX2_copyFrom_2 ?_
  obtain ⟨h1, eh1, hf⟩ := x_lt hf
  refine pf_2_0 C hR hS k0 tw_250 dX2_copyFrom_5 (fun H locs hR hS => ?_)
  rw [← eh1] at hR
  refine lv_aload_n hx hb dX2_copyFrom_8 rfl (lv_at hl 0 rfl) ?_
  refine lv_aload_n hx hb dX2_copyFrom_9 rfl (lv_at hl 1 rfl) ?_
  refine gf_2_1 C hR k1 tw_251 dX2_copyFrom_10 ?_
  obtain ⟨h2, eh2, hf⟩ := x_lt hf
  refine pf_2_1 C hR hS k0 tw_251 dX2_copyFrom_13 (fun H locs hR hS => ?_)
  rw [← eh2] at hR
  refine lv_aload_n hx hb dX2_copyFrom_16 rfl (lv_at hl 0 rfl) ?_
  refine lv_aload_n hx hb dX2_copyFrom_17 rfl (lv_at hl 1 rfl) ?_
  refine gf_2_2 C hR k1 tw_252 dX2_copyFrom_18 ?_
  obtain ⟨h3, eh3, hf⟩ := x_lt hf
  refine pf_2_2 C hR hS k0 tw_252 dX2_copyFrom_21 (fun H locs hR hS => ?_)
  rw [← eh3] at hR
  refine lv_aload_n hx hb dX2_copyFrom_24 rfl (lv_at hl 0 rfl) ?_
  refine lv_aload_n hx hb dX2_copyFrom_25 rfl (lv_at hl 1 rfl) ?_
  refine gf_2_3 C hR k1 tw_257 dX2_copyFrom_26 ?_
  obtain ⟨g4, hf⟩ := x_gd hf
  obtain ⟨h5, eh5, hf⟩ := x_lt hf
  refine pf_2_3 C hR hS (x_isb_of g4) k0 tw_257 dX2_copyFrom_29 (fun H locs hR hS => ?_)
  rw [← eh5] at hR
  refine lv_aload_n hx hb dX2_copyFrom_32 rfl (lv_at hl 0 rfl) ?_
  refine gf_2_4 C hR k0 tw_262 dX2_copyFrom_33 ?_
  refine lv_aload_n hx hb dX2_copyFrom_36 rfl (lv_at hl 1 rfl) ?_
  refine gf_2_4 C hR k1 tw_262 dX2_copyFrom_37 ?_
  obtain ⟨h6, eh6, hf⟩ := x_lt hf
  refine x_cVv1 C hR hS (S_X4_copyFrom (kf_2_1 hR k0) (kf_2_1 hR k1) eh6.symm) (kf_2_1 hR k0) (by decide) rfl mf_X4_copyFrom tw_593 (Nat.le_of_ble_eq_true rfl) (Nat.le_of_ble_eq_true rfl) hl.1 (Nat.le_of_ble_eq_true rfl) dX2_copyFrom_40 ⟨Nat.le_refl _, Nat.le_refl _⟩ (fun H locs hR hS => ?_)
  refine lv_aload_n hx hb dX2_copyFrom_43 rfl (lv_at hl 1 rfl) ?_
  refine gf_2_5 C hR k1 tw_267 dX2_copyFrom_44 ?_
  refine lv_iconst (v := 0) hx hb dX2_copyFrom_47 rfl ?_
  refine lv_aload_n hx hb dX2_copyFrom_48 rfl (lv_at hl 0 rfl) ?_
  refine gf_2_5 C hR k0 tw_267 dX2_copyFrom_49 ?_
  refine lv_iconst (v := 0) hx hb dX2_copyFrom_52 rfl ?_
  refine lv_bipush (v := 52) hx hb dX2_copyFrom_53 rfl ?_
  obtain ⟨g7, hf⟩ := x_gd hf
  obtain ⟨h8, eh8, hf⟩ := x_lt hf
  refine x_copy C hR hS (x_k1 (kf_2_2 hR k1)) (x_k1 (kf_2_2 hR k0)) (by rw [(kf_2_2 hR k1), (kf_2_2 hR k0)]; exact g7) tw_597 tw_125 (Nat.le_of_ble_eq_true rfl) (Nat.le_of_ble_eq_true rfl) hl.1 (Nat.le_of_ble_eq_true rfl) dX2_copyFrom_55 (fun H locs hR hS => ?_)
  rw [← eh8] at hR
  cases hf
  exact x_vret C hR hS dX2_copyFrom_58
def f_X7_copyFrom_133 (a : Nat) : Nat → XH → Nat → Int32 → Option (XH)
  | 0, _, _, _ => none
  | n + 1, h, v1, v2 => if 3 ≤ v2 then x_let (x_i h a 12 (h.1 v1 12)) (fun h13 => if x_cpok 0 0 6 6 6 = true then x_let (x_cp h13 (v1 + 7) (0 : Int32).toNatClampNeg (a + 7) (0 : Int32).toNatClampNeg (6 : Int32).toNatClampNeg) (fun h15 => if x_cpok 0 0 6 6 6 = true then x_let (x_cp h15 (v1 + 8) (0 : Int32).toNatClampNeg (a + 8) (0 : Int32).toNatClampNeg (6 : Int32).toNatClampNeg) (fun h17 => x_let (x_i h17 a 15 (h17.1 v1 15)) (fun h18 => if x_cpok 0 0 20 20 20 = true then x_let (x_cp h18 (v1 + 9) (0 : Int32).toNatClampNeg (a + 9) (0 : Int32).toNatClampNeg (20 : Int32).toNatClampNeg) (fun h20 => some h20) else none)) else none) else none) else if x_b v2 3 = true then if x_b v2 3 = true then x_let (x_r h (a + 5) v2.toNatClampNeg (h.2.2 (v1 + 5) v2.toNatClampNeg)) (fun h23 => if x_b v2 3 = true then if x_b v2 3 = true then x_let (x_r h23 (a + 6) v2.toNatClampNeg (h23.2.2 (v1 + 6) v2.toNatClampNeg)) (fun h26 => f_X7_copyFrom_133 a n h26 v1 (v2 + 1)) else none else none) else none else none
def f_X7_copyFrom_72 (a : Nat) : Nat → XH → Nat → Int32 → Option (XH)
  | 0, _, _, _ => none
  | n + 1, h, v1, v2 => if 8 ≤ v2 then x_let (x_i h a 6 (h.1 v1 6)) (fun h9 => x_let (x_i h9 a 7 (h9.1 v1 7)) (fun h10 => x_let (x_i h10 a 8 (h10.1 v1 8)) (fun h11 => x_let (x_i h11 a 10 (h11.1 v1 10)) (fun h12 => f_X7_copyFrom_133 a x_FU h12 v1 0)))) else if x_b v2 8 = true then if x_b v2 8 = true then Option.bind (f_X2_copyFrom ((a + 4) + 6 + 3 * v2.toNatClampNeg) h ((v1 + 4) + 6 + 3 * v2.toNatClampNeg)) (fun h29 => f_X7_copyFrom_72 a n h29 v1 (v2 + 1)) else none else none
def f_X7_copyFrom (a : Nat) (h : XH) (v1 : Nat) : Option (XH) := if x_cpok 0 0 156 156 156 = true then x_let (x_cp h (v1 + 1) (0 : Int32).toNatClampNeg (a + 1) (0 : Int32).toNatClampNeg (156 : Int32).toNatClampNeg) (fun h2 => x_let (x_i h2 a 1 (h2.1 v1 1)) (fun h3 => if x_cpok 0 0 6 6 6 = true then x_let (x_cp h3 (v1 + 2) (0 : Int32).toNatClampNeg (a + 2) (0 : Int32).toNatClampNeg (6 : Int32).toNatClampNeg) (fun h5 => if x_cpok 0 0 120 120 120 = true then x_let (x_cp h5 (v1 + 3) (0 : Int32).toNatClampNeg (a + 3) (0 : Int32).toNatClampNeg (120 : Int32).toNatClampNeg) (fun h7 => x_let (x_i h7 a 4 (h7.1 v1 4)) (fun h8 => f_X7_copyFrom_72 a x_FU h8 v1 0)) else none) else none)) else none
set_option maxRecDepth 20000 in
theorem B_X7_copyFrom_133 {p : Program} {l : Launch} {e : Env} {s : State} {m : MethodId} {args : Array Value} {below : List Frame} {meth : Method} {c : Code} {O : XO} {K : XK} {a : Nat} {h' : XH} (k0 : K a = (8, 0))  (C : x_C p s m args meth c O cX7_copyFrom 3 RX7 none)   : ∀ (n : Nat) (ls : Array Slot) (H : Heap) (locs : List Loc) (h : XH) (v1 : Nat) (v2 : Int32) (kv1 : K v1 = (8, 0)) (hl : lv_has ls 3 [(0, .ref a), (1, .ref v1), (2, .int v2)]) (hR : x_R O K h H) (hS : va_S (oA O) s.heap H locs) (hf : f_X7_copyFrom_133 a n h v1 v2 = some h'), W p l e (x_rm 2 121) s m args below meth c H locs 0 0 (MQ below (x_Qc O K h' none) args s 0 0 (oA O)) (F0 m 133 ls []) := by
  have hx := C.1
  have hb := C.2.1
  intro n
  induction n with
  | zero =>
    intro ls H locs h v1 v2 kv1 hl hR hS hf
    rw [f_X7_copyFrom_133] at hf
    cases hf
  | succ n ih =>
    intro ls H locs h v1 v2 kv1 hl hR hS hf
    rw [f_X7_copyFrom_133] at hf
    refine lv_iload_n hx hb dX7_copyFrom_133 rfl (lv_at hl 2 rfl) ?_
    refine lv_iconst (v := 3) hx hb dX7_copyFrom_134 rfl ?_
    refine lv_icmp_ge (tgt := 168) hx hb dX7_copyFrom_135 rfl (fun hc => ?_) (fun hc => ?_)
    · have hf := x_ip hc hf
      refine lv_aload_n hx hb dX7_copyFrom_168 rfl (lv_at hl 0 rfl) ?_
      refine lv_aload_n hx hb dX7_copyFrom_169 rfl (lv_at hl 1 rfl) ?_
      refine gf_7_12 C hR kv1 tw_321 dX7_copyFrom_170 ?_
      obtain ⟨h13, eh13, hf⟩ := x_lt hf
      refine pf_7_12 C hR hS k0 tw_321 dX7_copyFrom_173 (fun H locs hR hS => ?_)
      rw [← eh13] at hR
      refine lv_aload_n hx hb dX7_copyFrom_176 rfl (lv_at hl 1 rfl) ?_
      refine gf_7_13 C hR kv1 tw_324 dX7_copyFrom_177 ?_
      refine lv_iconst (v := 0) hx hb dX7_copyFrom_180 rfl ?_
      refine lv_aload_n hx hb dX7_copyFrom_181 rfl (lv_at hl 0 rfl) ?_
      refine gf_7_13 C hR k0 tw_324 dX7_copyFrom_182 ?_
      refine lv_iconst (v := 0) hx hb dX7_copyFrom_185 rfl ?_
      refine lv_aload_n hx hb dX7_copyFrom_186 rfl (lv_at hl 0 rfl) ?_
      refine gf_7_13 C hR k0 tw_324 dX7_copyFrom_187 ?_
      refine x_alenc (v := 6) C hR (kf_7_7 hR k0) rfl dX7_copyFrom_190 ?_
      obtain ⟨g14, hf⟩ := x_gd hf
      obtain ⟨h15, eh15, hf⟩ := x_lt hf
      refine x_copy C hR hS (x_k1 (kf_7_7 hR kv1)) (x_k1 (kf_7_7 hR k0)) (by rw [(kf_7_7 hR kv1), (kf_7_7 hR k0)]; exact g14) tw_586 tw_125 (Nat.le_of_ble_eq_true rfl) (Nat.le_of_ble_eq_true rfl) hl.1 (Nat.le_of_ble_eq_true rfl) dX7_copyFrom_191 (fun H locs hR hS => ?_)
      rw [← eh15] at hR
      refine lv_aload_n hx hb dX7_copyFrom_194 rfl (lv_at hl 1 rfl) ?_
      refine gf_7_14 C hR kv1 tw_327 dX7_copyFrom_195 ?_
      refine lv_iconst (v := 0) hx hb dX7_copyFrom_198 rfl ?_
      refine lv_aload_n hx hb dX7_copyFrom_199 rfl (lv_at hl 0 rfl) ?_
      refine gf_7_14 C hR k0 tw_327 dX7_copyFrom_200 ?_
      refine lv_iconst (v := 0) hx hb dX7_copyFrom_203 rfl ?_
      refine lv_aload_n hx hb dX7_copyFrom_204 rfl (lv_at hl 0 rfl) ?_
      refine gf_7_14 C hR k0 tw_327 dX7_copyFrom_205 ?_
      refine x_alenc (v := 6) C hR (kf_7_8 hR k0) rfl dX7_copyFrom_208 ?_
      obtain ⟨g16, hf⟩ := x_gd hf
      obtain ⟨h17, eh17, hf⟩ := x_lt hf
      refine x_copy C hR hS (x_k1 (kf_7_8 hR kv1)) (x_k1 (kf_7_8 hR k0)) (by rw [(kf_7_8 hR kv1), (kf_7_8 hR k0)]; exact g16) tw_586 tw_125 (Nat.le_of_ble_eq_true rfl) (Nat.le_of_ble_eq_true rfl) hl.1 (Nat.le_of_ble_eq_true rfl) dX7_copyFrom_209 (fun H locs hR hS => ?_)
      rw [← eh17] at hR
      refine lv_aload_n hx hb dX7_copyFrom_212 rfl (lv_at hl 0 rfl) ?_
      refine lv_aload_n hx hb dX7_copyFrom_213 rfl (lv_at hl 1 rfl) ?_
      refine gf_7_15 C hR kv1 tw_329 dX7_copyFrom_214 ?_
      obtain ⟨h18, eh18, hf⟩ := x_lt hf
      refine pf_7_15 C hR hS k0 tw_329 dX7_copyFrom_217 (fun H locs hR hS => ?_)
      rw [← eh18] at hR
      refine lv_aload_n hx hb dX7_copyFrom_220 rfl (lv_at hl 1 rfl) ?_
      refine gf_7_16 C hR kv1 tw_331 dX7_copyFrom_221 ?_
      refine lv_iconst (v := 0) hx hb dX7_copyFrom_224 rfl ?_
      refine lv_aload_n hx hb dX7_copyFrom_225 rfl (lv_at hl 0 rfl) ?_
      refine gf_7_16 C hR k0 tw_331 dX7_copyFrom_226 ?_
      refine lv_iconst (v := 0) hx hb dX7_copyFrom_229 rfl ?_
      refine lv_aload_n hx hb dX7_copyFrom_230 rfl (lv_at hl 0 rfl) ?_
      refine gf_7_16 C hR k0 tw_331 dX7_copyFrom_231 ?_
      refine x_alenc (v := 20) C hR (kf_7_9 hR k0) rfl dX7_copyFrom_234 ?_
      obtain ⟨g19, hf⟩ := x_gd hf
      obtain ⟨h20, eh20, hf⟩ := x_lt hf
      refine x_copy C hR hS (x_k1 (kf_7_9 hR kv1)) (x_k1 (kf_7_9 hR k0)) (by rw [(kf_7_9 hR kv1), (kf_7_9 hR k0)]; exact g19) tw_586 tw_125 (Nat.le_of_ble_eq_true rfl) (Nat.le_of_ble_eq_true rfl) hl.1 (Nat.le_of_ble_eq_true rfl) dX7_copyFrom_235 (fun H locs hR hS => ?_)
      rw [← eh20] at hR
      cases hf
      exact x_vret C hR hS dX7_copyFrom_238
    · have hf := x_in hc hf
      refine lv_aload_n hx hb dX7_copyFrom_138 rfl (lv_at hl 0 rfl) ?_
      refine gf_7_9 C hR k0 tw_315 dX7_copyFrom_139 ?_
      refine lv_iload_n hx hb dX7_copyFrom_142 rfl (lv_at hl 2 rfl) ?_
      refine lv_aload_n hx hb dX7_copyFrom_143 rfl (lv_at hl 1 rfl) ?_
      refine gf_7_9 C hR kv1 tw_315 dX7_copyFrom_144 ?_
      refine lv_iload_n hx hb dX7_copyFrom_147 rfl (lv_at hl 2 rfl) ?_
      obtain ⟨g21, hf⟩ := x_gd hf
      refine x_taald C hR (x_k1 (kf_7_5 hR kv1)) (x_k2 (kf_7_5 hR kv1) g21) dX7_copyFrom_148 ?_
      obtain ⟨g22, hf⟩ := x_gd hf
      obtain ⟨h23, eh23, hf⟩ := x_lt hf
      refine x_tast C hR hS (x_k1 (kf_7_5 hR k0)) (x_kT hR (kf_7_5 hR kv1)) (x_k2 (kf_7_5 hR k0) g22) dX7_copyFrom_149 (fun H locs hR hS => ?_)
      rw [← eh23] at hR
      refine lv_aload_n hx hb dX7_copyFrom_150 rfl (lv_at hl 0 rfl) ?_
      refine gf_7_11 C hR k0 tw_319 dX7_copyFrom_151 ?_
      refine lv_iload_n hx hb dX7_copyFrom_154 rfl (lv_at hl 2 rfl) ?_
      refine lv_aload_n hx hb dX7_copyFrom_155 rfl (lv_at hl 1 rfl) ?_
      refine gf_7_11 C hR kv1 tw_319 dX7_copyFrom_156 ?_
      refine lv_iload_n hx hb dX7_copyFrom_159 rfl (lv_at hl 2 rfl) ?_
      obtain ⟨g24, hf⟩ := x_gd hf
      refine x_taald C hR (x_k1 (kf_7_6 hR kv1)) (x_k2 (kf_7_6 hR kv1) g24) dX7_copyFrom_160 ?_
      obtain ⟨g25, hf⟩ := x_gd hf
      obtain ⟨h26, eh26, hf⟩ := x_lt hf
      refine x_tast C hR hS (x_k1 (kf_7_6 hR k0)) (x_kT hR (kf_7_6 hR kv1)) (x_k2 (kf_7_6 hR k0) g25) dX7_copyFrom_161 (fun H locs hR hS => ?_)
      rw [← eh26] at hR
      refine lv_iinc (k := 2) (v := _ + 1) (lv' := [(2, _), (0, _), (1, _)]) hx hb dX7_copyFrom_162 hl rfl (x_inc 1 1 rfl _) (Nat.le_of_ble_eq_true rfl) rfl (fun ls hl => ?_)
      refine lv_goto (tgt := 133) hx hb dX7_copyFrom_165 rfl ?_
      exact ih ls _ _ h26 _ _ kv1 (lv_sub hl [1, 2, 0] rfl) hR hS hf
set_option maxRecDepth 20000 in
theorem B_X7_copyFrom_72 {p : Program} {l : Launch} {e : Env} {s : State} {m : MethodId} {args : Array Value} {below : List Frame} {meth : Method} {c : Code} {O : XO} {K : XK} {a : Nat} {h' : XH} (k0 : K a = (8, 0))  (C : x_C p s m args meth c O cX7_copyFrom 3 RX7 none)   : ∀ (n : Nat) (ls : Array Slot) (H : Heap) (locs : List Loc) (h : XH) (v1 : Nat) (v2 : Int32) (kv1 : K v1 = (8, 0)) (hl : lv_has ls 3 [(0, .ref a), (1, .ref v1), (2, .int v2)]) (hR : x_R O K h H) (hS : va_S (oA O) s.heap H locs) (hf : f_X7_copyFrom_72 a n h v1 v2 = some h'), W p l e (x_rm 2 121) s m args below meth c H locs 0 0 (MQ below (x_Qc O K h' none) args s 0 0 (oA O)) (F0 m 72 ls []) := by
  have hx := C.1
  have hb := C.2.1
  intro n
  induction n with
  | zero =>
    intro ls H locs h v1 v2 kv1 hl hR hS hf
    rw [f_X7_copyFrom_72] at hf
    cases hf
  | succ n ih =>
    intro ls H locs h v1 v2 kv1 hl hR hS hf
    rw [f_X7_copyFrom_72] at hf
    refine lv_iload_n hx hb dX7_copyFrom_72 rfl (lv_at hl 2 rfl) ?_
    refine lv_bipush (v := 8) hx hb dX7_copyFrom_73 rfl ?_
    refine lv_icmp_ge (tgt := 99) hx hb dX7_copyFrom_75 rfl (fun hc => ?_) (fun hc => ?_)
    · have hf := x_ip hc hf
      refine lv_aload_n hx hb dX7_copyFrom_99 rfl (lv_at hl 0 rfl) ?_
      refine lv_aload_n hx hb dX7_copyFrom_100 rfl (lv_at hl 1 rfl) ?_
      refine gf_7_6 C hR kv1 tw_306 dX7_copyFrom_101 ?_
      obtain ⟨h9, eh9, hf⟩ := x_lt hf
      refine pf_7_6 C hR hS k0 tw_306 dX7_copyFrom_104 (fun H locs hR hS => ?_)
      rw [← eh9] at hR
      refine lv_aload_n hx hb dX7_copyFrom_107 rfl (lv_at hl 0 rfl) ?_
      refine lv_aload_n hx hb dX7_copyFrom_108 rfl (lv_at hl 1 rfl) ?_
      refine gf_7_7 C hR kv1 tw_309 dX7_copyFrom_109 ?_
      obtain ⟨h10, eh10, hf⟩ := x_lt hf
      refine pf_7_7 C hR hS k0 tw_309 dX7_copyFrom_112 (fun H locs hR hS => ?_)
      rw [← eh10] at hR
      refine lv_aload_n hx hb dX7_copyFrom_115 rfl (lv_at hl 0 rfl) ?_
      refine lv_aload_n hx hb dX7_copyFrom_116 rfl (lv_at hl 1 rfl) ?_
      refine gf_7_8 C hR kv1 tw_313 dX7_copyFrom_117 ?_
      obtain ⟨h11, eh11, hf⟩ := x_lt hf
      refine pf_7_8 C hR hS k0 tw_313 dX7_copyFrom_120 (fun H locs hR hS => ?_)
      rw [← eh11] at hR
      refine lv_aload_n hx hb dX7_copyFrom_123 rfl (lv_at hl 0 rfl) ?_
      refine lv_aload_n hx hb dX7_copyFrom_124 rfl (lv_at hl 1 rfl) ?_
      refine gf_7_10 C hR kv1 tw_317 dX7_copyFrom_125 ?_
      obtain ⟨h12, eh12, hf⟩ := x_lt hf
      refine pf_7_10 C hR hS k0 tw_317 dX7_copyFrom_128 (fun H locs hR hS => ?_)
      rw [← eh12] at hR
      refine lv_iconst (v := 0) hx hb dX7_copyFrom_131 rfl ?_
      refine lv_istore_n (lv' := [(2, _), (0, _), (1, _)]) hx hb dX7_copyFrom_132 rfl hl (Nat.le_of_ble_eq_true rfl) rfl (fun ls hl => ?_)
      exact B_X7_copyFrom_133 k0 C  x_FU ls _ _ h12 _ _ kv1 (lv_sub hl [1, 2, 0] rfl) hR hS hf
    · have hf := x_in hc hf
      refine lv_aload_n hx hb dX7_copyFrom_78 rfl (lv_at hl 0 rfl) ?_
      refine gf_7_5 C hR k0 tw_301 dX7_copyFrom_79 ?_
      refine lv_iload_n hx hb dX7_copyFrom_82 rfl (lv_at hl 2 rfl) ?_
      obtain ⟨g27, hf⟩ := x_gd hf
      refine x_paald C hR (x_k1 (kf_7_4 hR k0)) (x_k2 (kf_7_4 hR k0) g27) dX7_copyFrom_83 ?_
      refine lv_aload_n hx hb dX7_copyFrom_84 rfl (lv_at hl 1 rfl) ?_
      refine gf_7_5 C hR kv1 tw_301 dX7_copyFrom_85 ?_
      refine lv_iload_n hx hb dX7_copyFrom_88 rfl (lv_at hl 2 rfl) ?_
      obtain ⟨g28, hf⟩ := x_gd hf
      refine x_paald C hR (x_k1 (kf_7_4 hR kv1)) (x_k2 (kf_7_4 hR kv1) g28) dX7_copyFrom_89 ?_
      obtain ⟨h29, eh29, hf⟩ := x_bd hf
      refine x_cVv1 C hR hS (S_X2_copyFrom (x_kP hR (kf_7_4 hR k0) g27) (x_kP hR (kf_7_4 hR kv1) g28) eh29) (x_kP hR (kf_7_4 hR k0) g27) (by decide) rfl mf_X2_copyFrom tw_589 (Nat.le_of_ble_eq_true rfl) (Nat.le_of_ble_eq_true rfl) hl.1 (Nat.le_of_ble_eq_true rfl) dX7_copyFrom_90 ⟨Nat.le_refl _, Nat.le_refl _⟩ (fun H locs hR hS => ?_)
      refine lv_iinc (k := 2) (v := _ + 1) (lv' := [(2, _), (0, _), (1, _)]) hx hb dX7_copyFrom_93 hl rfl (x_inc 1 1 rfl _) (Nat.le_of_ble_eq_true rfl) rfl (fun ls hl => ?_)
      refine lv_goto (tgt := 72) hx hb dX7_copyFrom_96 rfl ?_
      exact ih ls _ _ h29 _ _ kv1 (lv_sub hl [1, 2, 0] rfl) hR hS hf
set_option maxRecDepth 20000 in
theorem S_X7_copyFrom {l : Launch} {O : XO} {K : XK} {h : XH} {a : Nat} {v1 : Nat}  {h' : XH} (k0 : K a = (8, 0)) (k1 : K v1 = (8, 0)) (hf : f_X7_copyFrom a h v1 = some h') : x_M l O K yX7_copyFrom cX7_copyFrom 3 none 2 121 h [.ref a, .ref v1] none h' := by
  refine x_enter (by decide) (Nat.le_of_ble_eq_true rfl) (fun p e s m args below meth c C hR ls hl => ?_)
  have hS : va_S (oA O) s.heap s.heap [] := va_S.rf
  have hx := C.1
  have hb := C.2.1
  have hl : lv_has ls 3 [(0, .ref a), (1, .ref v1)] := hl
  rw [f_X7_copyFrom] at hf
  refine lv_aload_n hx hb dX7_copyFrom_0 rfl (lv_at hl 1 rfl) ?_
  refine gf_7_0 C hR k1 tw_285 dX7_copyFrom_1 ?_
  refine lv_iconst (v := 0) hx hb dX7_copyFrom_4 rfl ?_
  refine lv_aload_n hx hb dX7_copyFrom_5 rfl (lv_at hl 0 rfl) ?_
  refine gf_7_0 C hR k0 tw_285 dX7_copyFrom_6 ?_
  refine lv_iconst (v := 0) hx hb dX7_copyFrom_9 rfl ?_
  refine lv_aload_n hx hb dX7_copyFrom_10 rfl (lv_at hl 0 rfl) ?_
  refine gf_7_0 C hR k0 tw_285 dX7_copyFrom_11 ?_
  refine x_alenc (v := 156) C hR (kf_7_1 hR k0) rfl dX7_copyFrom_14 ?_
  obtain ⟨g1, hf⟩ := x_gd hf
  obtain ⟨h2, eh2, hf⟩ := x_lt hf
  refine x_copy C hR hS (x_k1 (kf_7_1 hR k1)) (x_k1 (kf_7_1 hR k0)) (by rw [(kf_7_1 hR k1), (kf_7_1 hR k0)]; exact g1) tw_586 tw_125 (Nat.le_of_ble_eq_true rfl) (Nat.le_of_ble_eq_true rfl) hl.1 (Nat.le_of_ble_eq_true rfl) dX7_copyFrom_15 (fun H locs hR hS => ?_)
  rw [← eh2] at hR
  refine lv_aload_n hx hb dX7_copyFrom_18 rfl (lv_at hl 0 rfl) ?_
  refine lv_aload_n hx hb dX7_copyFrom_19 rfl (lv_at hl 1 rfl) ?_
  refine gf_7_1 C hR k1 tw_289 dX7_copyFrom_20 ?_
  obtain ⟨h3, eh3, hf⟩ := x_lt hf
  refine pf_7_1 C hR hS k0 tw_289 dX7_copyFrom_23 (fun H locs hR hS => ?_)
  rw [← eh3] at hR
  refine lv_aload_n hx hb dX7_copyFrom_26 rfl (lv_at hl 1 rfl) ?_
  refine gf_7_2 C hR k1 tw_291 dX7_copyFrom_27 ?_
  refine lv_iconst (v := 0) hx hb dX7_copyFrom_30 rfl ?_
  refine lv_aload_n hx hb dX7_copyFrom_31 rfl (lv_at hl 0 rfl) ?_
  refine gf_7_2 C hR k0 tw_291 dX7_copyFrom_32 ?_
  refine lv_iconst (v := 0) hx hb dX7_copyFrom_35 rfl ?_
  refine lv_aload_n hx hb dX7_copyFrom_36 rfl (lv_at hl 0 rfl) ?_
  refine gf_7_2 C hR k0 tw_291 dX7_copyFrom_37 ?_
  refine x_alenc (v := 6) C hR (kf_7_2 hR k0) rfl dX7_copyFrom_40 ?_
  obtain ⟨g4, hf⟩ := x_gd hf
  obtain ⟨h5, eh5, hf⟩ := x_lt hf
  refine x_copy C hR hS (x_k1 (kf_7_2 hR k1)) (x_k1 (kf_7_2 hR k0)) (by rw [(kf_7_2 hR k1), (kf_7_2 hR k0)]; exact g4) tw_586 tw_125 (Nat.le_of_ble_eq_true rfl) (Nat.le_of_ble_eq_true rfl) hl.1 (Nat.le_of_ble_eq_true rfl) dX7_copyFrom_41 (fun H locs hR hS => ?_)
  rw [← eh5] at hR
  refine lv_aload_n hx hb dX7_copyFrom_44 rfl (lv_at hl 1 rfl) ?_
  refine gf_7_3 C hR k1 tw_294 dX7_copyFrom_45 ?_
  refine lv_iconst (v := 0) hx hb dX7_copyFrom_48 rfl ?_
  refine lv_aload_n hx hb dX7_copyFrom_49 rfl (lv_at hl 0 rfl) ?_
  refine gf_7_3 C hR k0 tw_294 dX7_copyFrom_50 ?_
  refine lv_iconst (v := 0) hx hb dX7_copyFrom_53 rfl ?_
  refine lv_aload_n hx hb dX7_copyFrom_54 rfl (lv_at hl 0 rfl) ?_
  refine gf_7_3 C hR k0 tw_294 dX7_copyFrom_55 ?_
  refine x_alenc (v := 120) C hR (kf_7_3 hR k0) rfl dX7_copyFrom_58 ?_
  obtain ⟨g6, hf⟩ := x_gd hf
  obtain ⟨h7, eh7, hf⟩ := x_lt hf
  refine x_copy C hR hS (x_k1 (kf_7_3 hR k1)) (x_k1 (kf_7_3 hR k0)) (by rw [(kf_7_3 hR k1), (kf_7_3 hR k0)]; exact g6) tw_586 tw_125 (Nat.le_of_ble_eq_true rfl) (Nat.le_of_ble_eq_true rfl) hl.1 (Nat.le_of_ble_eq_true rfl) dX7_copyFrom_59 (fun H locs hR hS => ?_)
  rw [← eh7] at hR
  refine lv_aload_n hx hb dX7_copyFrom_62 rfl (lv_at hl 0 rfl) ?_
  refine lv_aload_n hx hb dX7_copyFrom_63 rfl (lv_at hl 1 rfl) ?_
  refine gf_7_4 C hR k1 tw_296 dX7_copyFrom_64 ?_
  obtain ⟨h8, eh8, hf⟩ := x_lt hf
  refine pf_7_4 C hR hS k0 tw_296 dX7_copyFrom_67 (fun H locs hR hS => ?_)
  rw [← eh8] at hR
  refine lv_iconst (v := 0) hx hb dX7_copyFrom_70 rfl ?_
  refine lv_istore_n (lv' := [(2, _), (0, _), (1, _)]) hx hb dX7_copyFrom_71 rfl hl (Nat.le_of_ble_eq_true rfl) rfl (fun ls hl => ?_)
  exact B_X7_copyFrom_72 k0 C  x_FU ls _ _ h8 _ _ k1 (lv_sub hl [1, 2, 0] rfl) hR hS hf
def f_J0_length_8abf5 (v0 : Nat) (h : XH) : Int32 := (x_shr (nI (x_ss.getD v0 []).length) (f_J0_coder_7d493 v0 h))
set_option maxRecDepth 20000 in
theorem S_J0_length_8abf5 {l : Launch} {O : XO} {K : XK} {h : XH} {v0 : Nat}  {r : Int32} (k0 : v0 < 71) (hf : f_J0_length_8abf5 v0 h = r) : x_M l O K yJ0_length_8abf5 cJ0_length_8abf5 1 (some .int) 1 20 h [.ref (oK O v0)] (some (.int r)) h := by
  refine x_enterF (by decide +kernel) (Nat.le_of_ble_eq_true rfl) (fun p e s m args below meth c C hR ls hl => ?_)
  have hS : va_S (oA O) s.heap s.heap [] := va_S.rf
  have hx := C.1
  have hb := C.2.1
  have hl : lv_has ls 1 [(0, .ref (oK O v0))] := hl
  rw [f_J0_length_8abf5] at hf
  refine lv_aload_n hx hb dJ0_length_8abf5_0 rfl (lv_at hl 0 rfl) ?_
  refine vk_getf hx hb (x_SE C k0).2.2.1 hS C.2.2.2.1 (C.2.2.2.2.1 _ tw_2128) (fun _ h9 => h9) dJ0_length_8abf5_1 ?_
  refine va_tlen hx hb (x_SE C k0).2.2.2 hS rfl dJ0_length_8abf5_4 ?_
  refine lv_aload_n hx hb dJ0_length_8abf5_5 rfl (lv_at hl 0 rfl) ?_
  refine x_cVsi0 C hR hS (S_J0_coder_7d493 k0 rfl) k0 rfl mf_J0_coder_7d493 tw_663 (Nat.le_of_ble_eq_true rfl) (Nat.le_of_ble_eq_true rfl) hl.1 (Nat.le_of_ble_eq_true rfl) dJ0_length_8abf5_6 ⟨Nat.le_refl _, Nat.le_refl _⟩ (fun H locs hR hS => ?_)
  refine lv_ishr hx hb dJ0_length_8abf5_9 ?_
  cases hf
  exact x_iret C hR hS dJ0_length_8abf5_10
def f_J0_charAt_5068e (v0 : Nat) (h : XH) (v1 : Int32) : Option Int32 := if (f_J0_isLatin1_aae02 v0 h) = 0 then none else Option.bind (f_J1_charAt_3b067 h v0 v1) (fun v_1 => if x_isc v_1 = true then some v_1 else none)
set_option maxRecDepth 20000 in
theorem S_J0_charAt_5068e {l : Launch} {O : XO} {K : XK} {h : XH} {v0 : Nat} {v1 : Int32}  {r : Int32} (k0 : v0 < 71) (hf : f_J0_charAt_5068e v0 h v1 = some r) : x_M l O K yJ0_charAt_5068e cJ0_charAt_5068e 2 (some .char) 3 101 h [.ref (oK O v0), .int v1] (some (.int r)) h := by
  refine x_enterF (by decide +kernel) (Nat.le_of_ble_eq_true rfl) (fun p e s m args below meth c C hR ls hl => ?_)
  have hS : va_S (oA O) s.heap s.heap [] := va_S.rf
  have hx := C.1
  have hb := C.2.1
  have hl : lv_has ls 2 [(0, .ref (oK O v0)), (1, .int v1)] := hl
  rw [f_J0_charAt_5068e] at hf
  refine lv_aload_n hx hb dJ0_charAt_5068e_0 rfl (lv_at hl 0 rfl) ?_
  refine x_cVsi0 C hR hS (S_J0_isLatin1_aae02 k0 rfl) k0 rfl mf_J0_isLatin1_aae02 tw_673 (Nat.le_of_ble_eq_true rfl) (Nat.le_of_ble_eq_true rfl) hl.1 (Nat.le_of_ble_eq_true rfl) dJ0_charAt_5068e_1 ⟨Nat.le_refl _, Nat.le_refl _⟩ (fun H locs hR hS => ?_)
  refine lv_if_eq (tgt := 16) hx hb dJ0_charAt_5068e_4 rfl (fun hc => ?_) (fun hc => ?_)
  · have hf := x_ip hc hf
    cases hf
  · have hf := x_in hc hf
    refine lv_aload_n hx hb dJ0_charAt_5068e_7 rfl (lv_at hl 0 rfl) ?_
    refine vk_getf hx hb (x_SE C k0).2.2.1 hS C.2.2.2.1 (C.2.2.2.2.1 _ tw_2128) (fun _ h9 => h9) dJ0_charAt_5068e_8 ?_
    refine lv_iload_n hx hb dJ0_charAt_5068e_11 rfl (lv_at hl 1 rfl) ?_
    obtain ⟨v_1, ev_1, hf⟩ := x_bd hf
    refine x_cSi2 C hR hS (S_J1_charAt_3b067 k0 ev_1) mf_J1_charAt_3b067 tw_677 (Nat.le_of_ble_eq_true rfl) (Nat.le_of_ble_eq_true rfl) hl.1 (Nat.le_of_ble_eq_true rfl) dJ0_charAt_5068e_12 ⟨Nat.le_refl _, Nat.le_refl _⟩ (fun H locs hR hS => ?_)
    obtain ⟨g2, hf⟩ := x_gd hf
    cases hf
    exact x_cret C hR hS (x_isc_of g2) dJ0_charAt_5068e_15
def f_X8_indexIn_110 (k12 : Nat → Int32 → Int32 → Int32 → Int32 → Int32 → Int32 → Option Int32) (x : Nat) (h : XH) (v1 : Nat) (v2 : Int32) (v3 : Int32) (v4 : Int32) (v5 : Int32) (v6 : Int32) (v7 : Int32) : Option Int32 := k12 v1 v2 v3 v4 v5 v6 (v7 + 1)
def f_X8_indexIn_57 (k12 : Nat → Int32 → Int32 → Int32 → Int32 → Int32 → Int32 → Option Int32) (x : Nat) (h : XH) (v1 : Nat) (v2 : Int32) (v3 : Int32) (v4 : Int32) (v7 : Int32) : Option Int32 := f_X8_indexIn_110 k12 x h v1 v2 v3 (v4 + 1) 0 1 v7
def f_X8_indexIn_41 (k12 : Nat → Int32 → Int32 → Int32 → Int32 → Int32 → Int32 → Option Int32) (x : Nat) (h : XH) (v1 : Nat) (v2 : Int32) (v3 : Int32) (v4 : Int32) (v5 : Int32) (v6 : Int32) (v7 : Int32) : Option Int32 := if v6 = 0 then f_X8_indexIn_57 k12 x h v1 v2 v3 v4 v7 else if v5 = (v3 - v2) then some v4 else f_X8_indexIn_57 k12 x h v1 v2 v3 v4 v7
def f_X8_indexIn_105 (k12 : Nat → Int32 → Int32 → Int32 → Int32 → Int32 → Int32 → Option Int32) (x : Nat) (h : XH) (v1 : Nat) (v2 : Int32) (v3 : Int32) (v4 : Int32) (v5 : Int32) (v7 : Int32) (s0 : Int32) : Option Int32 := f_X8_indexIn_110 k12 x h v1 v2 v3 v4 (v5 + 1) s0 v7
def f_X8_indexIn_104 (k12 : Nat → Int32 → Int32 → Int32 → Int32 → Int32 → Int32 → Option Int32) (x : Nat) (h : XH) (v1 : Nat) (v2 : Int32) (v3 : Int32) (v4 : Int32) (v5 : Int32) (v7 : Int32) : Option Int32 := f_X8_indexIn_105 k12 x h v1 v2 v3 v4 v5 v7 0
def f_X8_indexIn_12 (x : Nat) (h : XH) : Nat → Nat → Int32 → Int32 → Int32 → Int32 → Int32 → Int32 → Option Int32
  | 0, _, _, _, _, _, _, _ => none
  | n + 1, v1, v2, v3, v4, v5, v6, v7 => if (f_J0_length_8abf5 v1 h) < v7 then some (-1) else if v7 = (f_J0_length_8abf5 v1 h) then f_X8_indexIn_41 (f_X8_indexIn_12 x h n) x h v1 v2 v3 v4 v5 v6 v7 else Option.bind (f_J0_charAt_5068e v1 h v7) (fun v_1 => if v_1 = 32 then f_X8_indexIn_41 (f_X8_indexIn_12 x h n) x h v1 v2 v3 v4 v5 v6 v7 else if v6 = 0 then f_X8_indexIn_104 (f_X8_indexIn_12 x h n) x h v1 v2 v3 v4 v5 v7 else if (v3 - v2) ≤ v5 then f_X8_indexIn_104 (f_X8_indexIn_12 x h n) x h v1 v2 v3 v4 v5 v7 else if x_b (v2 + v5) 400 = true then Option.bind (f_J0_charAt_5068e v1 h v7) (fun v_3 => x_let ((if (h.1 (x + 2) (v2 + v5).toNatClampNeg) = v_3 then 1 else 0) : Int32) (fun t5 => f_X8_indexIn_110 (f_X8_indexIn_12 x h n) x h v1 v2 v3 v4 (v5 + 1) t5 v7)) else none)
def f_X8_indexIn (x : Nat) (h : XH) (v1 : Nat) (v2 : Int32) (v3 : Int32) : Option Int32 := f_X8_indexIn_12 x h x_FU v1 v2 v3 0 0 1 0
set_option maxRecDepth 20000 in
theorem B_X8_indexIn_110 {p : Program} {l : Launch} {e : Env} {s : State} {m : MethodId} {args : Array Value} {below : List Frame} {meth : Method} {c : Code} {O : XO} {K : XK} {h : XH} {r : Int32}  {k12 : Nat → Int32 → Int32 → Int32 → Int32 → Int32 → Int32 → Option Int32} (C : x_C p s m args meth c O cX8_indexIn 8 RX8 (some .int)) (hk12 : ∀ (ls : Array Slot) (H : Heap) (locs : List Loc) (v1 : Nat) (v2 : Int32) (v3 : Int32) (v4 : Int32) (v5 : Int32) (v6 : Int32) (v7 : Int32) (kv1 : v1 < 71), lv_has ls 8 [(0, .ref (oX O + 1)), (1, .ref (oK O v1)), (2, .int v2), (3, .int v3), (4, .int v4), (5, .int v5), (6, .int v6), (7, .int v7)] → x_R O K h H → va_S (oA O) s.heap H locs → k12 v1 v2 v3 v4 v5 v6 v7 = some r → W p l e (x_rm 4 122) s m args below meth c H locs 0 0 (MQ below (x_Qc O K h (some (.int r))) args s 0 0 (oA O)) (F0 m 12 ls []))  (ls : Array Slot) (H : Heap) (locs : List Loc) (v1 : Nat) (v2 : Int32) (v3 : Int32) (v4 : Int32) (v5 : Int32) (v6 : Int32) (v7 : Int32) (kv1 : v1 < 71) (hl : lv_has ls 8 [(0, .ref (oX O + 1)), (1, .ref (oK O v1)), (2, .int v2), (3, .int v3), (4, .int v4), (5, .int v5), (6, .int v6), (7, .int v7)]) (hR : x_R O K h H) (hS : va_S (oA O) s.heap H locs) (hf : f_X8_indexIn_110 k12 (oX O) h v1 v2 v3 v4 v5 v6 v7 = some r) : W p l e (x_rm 4 122) s m args below meth c H locs 0 0 (MQ below (x_Qc O K h (some (.int r))) args s 0 0 (oA O)) (F0 m 110 ls []) := by
  have hx := C.1
  have hb := C.2.1
  rw [f_X8_indexIn_110] at hf
  refine lv_iinc (k := 7) (v := _ + 1) (lv' := [(7, _), (0, _), (1, _), (2, _), (3, _), (4, _), (5, _), (6, _)]) hx hb dX8_indexIn_110 hl rfl (x_inc 1 1 rfl _) (Nat.le_of_ble_eq_true rfl) rfl (fun ls hl => ?_)
  refine lv_goto (tgt := 12) hx hb dX8_indexIn_113 rfl ?_
  exact hk12 ls _ _ _ _ _ _ _ _ _ kv1 (lv_sub hl [1, 2, 3, 4, 5, 6, 7, 0] rfl) hR hS hf
set_option maxRecDepth 20000 in
theorem B_X8_indexIn_57 {p : Program} {l : Launch} {e : Env} {s : State} {m : MethodId} {args : Array Value} {below : List Frame} {meth : Method} {c : Code} {O : XO} {K : XK} {h : XH} {r : Int32}  {k12 : Nat → Int32 → Int32 → Int32 → Int32 → Int32 → Int32 → Option Int32} (C : x_C p s m args meth c O cX8_indexIn 8 RX8 (some .int)) (hk12 : ∀ (ls : Array Slot) (H : Heap) (locs : List Loc) (v1 : Nat) (v2 : Int32) (v3 : Int32) (v4 : Int32) (v5 : Int32) (v6 : Int32) (v7 : Int32) (kv1 : v1 < 71), lv_has ls 8 [(0, .ref (oX O + 1)), (1, .ref (oK O v1)), (2, .int v2), (3, .int v3), (4, .int v4), (5, .int v5), (6, .int v6), (7, .int v7)] → x_R O K h H → va_S (oA O) s.heap H locs → k12 v1 v2 v3 v4 v5 v6 v7 = some r → W p l e (x_rm 4 122) s m args below meth c H locs 0 0 (MQ below (x_Qc O K h (some (.int r))) args s 0 0 (oA O)) (F0 m 12 ls []))  (ls : Array Slot) (H : Heap) (locs : List Loc) (v1 : Nat) (v2 : Int32) (v3 : Int32) (v4 : Int32) (v7 : Int32) (kv1 : v1 < 71) (hl : lv_has ls 8 [(0, .ref (oX O + 1)), (1, .ref (oK O v1)), (2, .int v2), (3, .int v3), (4, .int v4), (7, .int v7)]) (hR : x_R O K h H) (hS : va_S (oA O) s.heap H locs) (hf : f_X8_indexIn_57 k12 (oX O) h v1 v2 v3 v4 v7 = some r) : W p l e (x_rm 4 122) s m args below meth c H locs 0 0 (MQ below (x_Qc O K h (some (.int r))) args s 0 0 (oA O)) (F0 m 57 ls []) := by
  have hx := C.1
  have hb := C.2.1
  rw [f_X8_indexIn_57] at hf
  refine lv_iinc (k := 4) (v := _ + 1) (lv' := [(4, _), (0, _), (1, _), (2, _), (3, _), (7, _)]) hx hb dX8_indexIn_57 hl rfl (x_inc 1 1 rfl _) (Nat.le_of_ble_eq_true rfl) rfl (fun ls hl => ?_)
  refine lv_iconst (v := 0) hx hb dX8_indexIn_60 rfl ?_
  refine lv_istore (lv' := [(5, _), (4, _), (0, _), (1, _), (2, _), (3, _), (7, _)]) hx hb dX8_indexIn_61 hl (Nat.le_of_ble_eq_true rfl) rfl (fun ls hl => ?_)
  refine lv_iconst (v := 1) hx hb dX8_indexIn_63 rfl ?_
  refine lv_istore (lv' := [(6, _), (5, _), (4, _), (0, _), (1, _), (2, _), (3, _), (7, _)]) hx hb dX8_indexIn_64 hl (Nat.le_of_ble_eq_true rfl) rfl (fun ls hl => ?_)
  refine lv_goto (tgt := 110) hx hb dX8_indexIn_66 rfl ?_
  exact B_X8_indexIn_110  C hk12  ls _ _ _ _ _ _ _ _ _ kv1 (lv_sub hl [3, 4, 5, 6, 2, 1, 0, 7] rfl) hR hS hf
set_option maxRecDepth 20000 in
theorem B_X8_indexIn_41 {p : Program} {l : Launch} {e : Env} {s : State} {m : MethodId} {args : Array Value} {below : List Frame} {meth : Method} {c : Code} {O : XO} {K : XK} {h : XH} {r : Int32}  {k12 : Nat → Int32 → Int32 → Int32 → Int32 → Int32 → Int32 → Option Int32} (C : x_C p s m args meth c O cX8_indexIn 8 RX8 (some .int)) (hk12 : ∀ (ls : Array Slot) (H : Heap) (locs : List Loc) (v1 : Nat) (v2 : Int32) (v3 : Int32) (v4 : Int32) (v5 : Int32) (v6 : Int32) (v7 : Int32) (kv1 : v1 < 71), lv_has ls 8 [(0, .ref (oX O + 1)), (1, .ref (oK O v1)), (2, .int v2), (3, .int v3), (4, .int v4), (5, .int v5), (6, .int v6), (7, .int v7)] → x_R O K h H → va_S (oA O) s.heap H locs → k12 v1 v2 v3 v4 v5 v6 v7 = some r → W p l e (x_rm 4 122) s m args below meth c H locs 0 0 (MQ below (x_Qc O K h (some (.int r))) args s 0 0 (oA O)) (F0 m 12 ls []))  (ls : Array Slot) (H : Heap) (locs : List Loc) (v1 : Nat) (v2 : Int32) (v3 : Int32) (v4 : Int32) (v5 : Int32) (v6 : Int32) (v7 : Int32) (kv1 : v1 < 71) (hl : lv_has ls 8 [(0, .ref (oX O + 1)), (1, .ref (oK O v1)), (2, .int v2), (3, .int v3), (4, .int v4), (5, .int v5), (6, .int v6), (7, .int v7)]) (hR : x_R O K h H) (hS : va_S (oA O) s.heap H locs) (hf : f_X8_indexIn_41 k12 (oX O) h v1 v2 v3 v4 v5 v6 v7 = some r) : W p l e (x_rm 4 122) s m args below meth c H locs 0 0 (MQ below (x_Qc O K h (some (.int r))) args s 0 0 (oA O)) (F0 m 41 ls []) := by
  have hx := C.1
  have hb := C.2.1
  rw [f_X8_indexIn_41] at hf
  refine lv_iload hx hb dX8_indexIn_41 (lv_at hl 6 rfl) ?_
  refine lv_if_eq (tgt := 57) hx hb dX8_indexIn_43 rfl (fun hc => ?_) (fun hc => ?_)
  · have hf := x_ip hc hf
    exact B_X8_indexIn_57  C hk12  ls _ _ _ _ _ _ _ kv1 (lv_sub hl [0, 1, 2, 3, 4, 7] rfl) hR hS hf
  · have hf := x_in hc hf
    refine lv_iload hx hb dX8_indexIn_46 (lv_at hl 5 rfl) ?_
    refine lv_iload_n hx hb dX8_indexIn_48 rfl (lv_at hl 3 rfl) ?_
    refine lv_iload_n hx hb dX8_indexIn_49 rfl (lv_at hl 2 rfl) ?_
    refine lv_isub hx hb dX8_indexIn_50 ?_
    refine lv_icmp_ne (tgt := 57) hx hb dX8_indexIn_51 rfl (fun hc => ?_) (fun hc => ?_)
    · have hf := x_in hc hf
      exact B_X8_indexIn_57  C hk12  ls _ _ _ _ _ _ _ kv1 (lv_sub hl [0, 1, 2, 3, 4, 7] rfl) hR hS hf
    · have hf := x_ip hc hf
      refine lv_iload hx hb dX8_indexIn_54 (lv_at hl 4 rfl) ?_
      cases hf
      exact x_iret C hR hS dX8_indexIn_56
set_option maxRecDepth 20000 in
theorem B_X8_indexIn_105 {p : Program} {l : Launch} {e : Env} {s : State} {m : MethodId} {args : Array Value} {below : List Frame} {meth : Method} {c : Code} {O : XO} {K : XK} {h : XH} {r : Int32}  {k12 : Nat → Int32 → Int32 → Int32 → Int32 → Int32 → Int32 → Option Int32} (C : x_C p s m args meth c O cX8_indexIn 8 RX8 (some .int)) (hk12 : ∀ (ls : Array Slot) (H : Heap) (locs : List Loc) (v1 : Nat) (v2 : Int32) (v3 : Int32) (v4 : Int32) (v5 : Int32) (v6 : Int32) (v7 : Int32) (kv1 : v1 < 71), lv_has ls 8 [(0, .ref (oX O + 1)), (1, .ref (oK O v1)), (2, .int v2), (3, .int v3), (4, .int v4), (5, .int v5), (6, .int v6), (7, .int v7)] → x_R O K h H → va_S (oA O) s.heap H locs → k12 v1 v2 v3 v4 v5 v6 v7 = some r → W p l e (x_rm 4 122) s m args below meth c H locs 0 0 (MQ below (x_Qc O K h (some (.int r))) args s 0 0 (oA O)) (F0 m 12 ls []))  (ls : Array Slot) (H : Heap) (locs : List Loc) (v1 : Nat) (v2 : Int32) (v3 : Int32) (v4 : Int32) (v5 : Int32) (v7 : Int32) (s0 : Int32) (kv1 : v1 < 71) (hl : lv_has ls 8 [(0, .ref (oX O + 1)), (1, .ref (oK O v1)), (2, .int v2), (3, .int v3), (4, .int v4), (5, .int v5), (7, .int v7)]) (hR : x_R O K h H) (hS : va_S (oA O) s.heap H locs) (hf : f_X8_indexIn_105 k12 (oX O) h v1 v2 v3 v4 v5 v7 s0 = some r) : W p l e (x_rm 4 122) s m args below meth c H locs 0 0 (MQ below (x_Qc O K h (some (.int r))) args s 0 0 (oA O)) (F0 m 105 ls [.int s0]) := by
  have hx := C.1
  have hb := C.2.1
  rw [f_X8_indexIn_105] at hf
  refine lv_istore (lv' := [(6, _), (0, _), (1, _), (2, _), (3, _), (4, _), (5, _), (7, _)]) hx hb dX8_indexIn_105 hl (Nat.le_of_ble_eq_true rfl) rfl (fun ls hl => ?_)
  refine lv_iinc (k := 6) (v := _ + 1) (lv' := [(5, _), (6, _), (0, _), (1, _), (2, _), (3, _), (4, _), (7, _)]) hx hb dX8_indexIn_107 hl rfl (x_inc 1 1 rfl _) (Nat.le_of_ble_eq_true rfl) rfl (fun ls hl => ?_)
  exact B_X8_indexIn_110  C hk12  ls _ _ _ _ _ _ _ _ _ kv1 (lv_sub hl [2, 3, 4, 5, 6, 0, 1, 7] rfl) hR hS hf
set_option maxRecDepth 20000 in
theorem B_X8_indexIn_104 {p : Program} {l : Launch} {e : Env} {s : State} {m : MethodId} {args : Array Value} {below : List Frame} {meth : Method} {c : Code} {O : XO} {K : XK} {h : XH} {r : Int32}  {k12 : Nat → Int32 → Int32 → Int32 → Int32 → Int32 → Int32 → Option Int32} (C : x_C p s m args meth c O cX8_indexIn 8 RX8 (some .int)) (hk12 : ∀ (ls : Array Slot) (H : Heap) (locs : List Loc) (v1 : Nat) (v2 : Int32) (v3 : Int32) (v4 : Int32) (v5 : Int32) (v6 : Int32) (v7 : Int32) (kv1 : v1 < 71), lv_has ls 8 [(0, .ref (oX O + 1)), (1, .ref (oK O v1)), (2, .int v2), (3, .int v3), (4, .int v4), (5, .int v5), (6, .int v6), (7, .int v7)] → x_R O K h H → va_S (oA O) s.heap H locs → k12 v1 v2 v3 v4 v5 v6 v7 = some r → W p l e (x_rm 4 122) s m args below meth c H locs 0 0 (MQ below (x_Qc O K h (some (.int r))) args s 0 0 (oA O)) (F0 m 12 ls []))  (ls : Array Slot) (H : Heap) (locs : List Loc) (v1 : Nat) (v2 : Int32) (v3 : Int32) (v4 : Int32) (v5 : Int32) (v7 : Int32) (kv1 : v1 < 71) (hl : lv_has ls 8 [(0, .ref (oX O + 1)), (1, .ref (oK O v1)), (2, .int v2), (3, .int v3), (4, .int v4), (5, .int v5), (7, .int v7)]) (hR : x_R O K h H) (hS : va_S (oA O) s.heap H locs) (hf : f_X8_indexIn_104 k12 (oX O) h v1 v2 v3 v4 v5 v7 = some r) : W p l e (x_rm 4 122) s m args below meth c H locs 0 0 (MQ below (x_Qc O K h (some (.int r))) args s 0 0 (oA O)) (F0 m 104 ls []) := by
  have hx := C.1
  have hb := C.2.1
  rw [f_X8_indexIn_104] at hf
  refine lv_iconst (v := 0) hx hb dX8_indexIn_104 rfl ?_
  exact B_X8_indexIn_105  C hk12  ls _ _ _ _ _ _ _ _ _ kv1 (lv_sub hl [0, 1, 2, 3, 4, 5, 6] rfl) hR hS hf
set_option maxRecDepth 20000 in
theorem B_X8_indexIn_12 {p : Program} {l : Launch} {e : Env} {s : State} {m : MethodId} {args : Array Value} {below : List Frame} {meth : Method} {c : Code} {O : XO} {K : XK} {h : XH} {r : Int32}   (C : x_C p s m args meth c O cX8_indexIn 8 RX8 (some .int))   : ∀ (n : Nat) (ls : Array Slot) (H : Heap) (locs : List Loc) (v1 : Nat) (v2 : Int32) (v3 : Int32) (v4 : Int32) (v5 : Int32) (v6 : Int32) (v7 : Int32) (kv1 : v1 < 71) (hl : lv_has ls 8 [(0, .ref (oX O + 1)), (1, .ref (oK O v1)), (2, .int v2), (3, .int v3), (4, .int v4), (5, .int v5), (6, .int v6), (7, .int v7)]) (hR : x_R O K h H) (hS : va_S (oA O) s.heap H locs) (hf : f_X8_indexIn_12 (oX O) h n v1 v2 v3 v4 v5 v6 v7 = some r), W p l e (x_rm 4 122) s m args below meth c H locs 0 0 (MQ below (x_Qc O K h (some (.int r))) args s 0 0 (oA O)) (F0 m 12 ls []) := by
  have hx := C.1
  have hb := C.2.1
  intro n
  induction n with
  | zero =>
    intro ls H locs v1 v2 v3 v4 v5 v6 v7 kv1 hl hR hS hf
    rw [f_X8_indexIn_12] at hf
    cases hf
  | succ n ih =>
    intro ls H locs v1 v2 v3 v4 v5 v6 v7 kv1 hl hR hS hf
    rw [f_X8_indexIn_12] at hf
    refine lv_iload hx hb dX8_indexIn_12 (lv_at hl 7 rfl) ?_
    refine lv_aload_n hx hb dX8_indexIn_14 rfl (lv_at hl 1 rfl) ?_
    refine x_cVsi0 C hR hS (S_J0_length_8abf5 kv1 rfl) kv1 rfl mf_J0_length_8abf5 tw_659 (Nat.le_of_ble_eq_true rfl) (Nat.le_of_ble_eq_true rfl) hl.1 (Nat.le_of_ble_eq_true rfl) dX8_indexIn_15 ⟨Nat.le_refl _, Nat.le_refl _⟩ (fun H locs hR hS => ?_)
    refine lv_icmp_gt (tgt := 116) hx hb dX8_indexIn_18 rfl (fun hc => ?_) (fun hc => ?_)
    · have hf := x_ip hc hf
      refine lv_iconst (v := (-1)) hx hb dX8_indexIn_116 rfl ?_
      cases hf
      exact x_iret C hR hS dX8_indexIn_117
    · have hf := x_in hc hf
      refine lv_iload hx hb dX8_indexIn_21 (lv_at hl 7 rfl) ?_
      refine lv_aload_n hx hb dX8_indexIn_23 rfl (lv_at hl 1 rfl) ?_
      refine x_cVsi0 C hR hS (S_J0_length_8abf5 kv1 rfl) kv1 rfl mf_J0_length_8abf5 tw_659 (Nat.le_of_ble_eq_true rfl) (Nat.le_of_ble_eq_true rfl) hl.1 (Nat.le_of_ble_eq_true rfl) dX8_indexIn_24 ⟨Nat.le_refl _, Nat.le_refl _⟩ (fun H locs hR hS => ?_)
      refine lv_icmp_eq (tgt := 41) hx hb dX8_indexIn_27 rfl (fun hc => ?_) (fun hc => ?_)
      · have hf := x_ip hc hf
        exact B_X8_indexIn_41  C ih  ls _ _ _ _ _ _ _ _ _ kv1 (lv_sub hl [0, 1, 2, 3, 4, 5, 6, 7] rfl) hR hS hf
      · have hf := x_in hc hf
        refine lv_aload_n hx hb dX8_indexIn_30 rfl (lv_at hl 1 rfl) ?_
        refine lv_iload hx hb dX8_indexIn_31 (lv_at hl 7 rfl) ?_
        obtain ⟨v_1, ev_1, hf⟩ := x_bd hf
        refine x_cVsi1 C hR hS (S_J0_charAt_5068e kv1 ev_1) kv1 rfl mf_J0_charAt_5068e tw_669 (Nat.le_of_ble_eq_true rfl) (Nat.le_of_ble_eq_true rfl) hl.1 (Nat.le_of_ble_eq_true rfl) dX8_indexIn_33 ⟨Nat.le_refl _, Nat.le_refl _⟩ (fun H locs hR hS => ?_)
        refine lv_bipush (v := 32) hx hb dX8_indexIn_36 rfl ?_
        refine lv_icmp_ne (tgt := 69) hx hb dX8_indexIn_38 rfl (fun hc => ?_) (fun hc => ?_)
        · have hf := x_in hc hf
          refine lv_iload hx hb dX8_indexIn_69 (lv_at hl 6 rfl) ?_
          refine lv_if_eq (tgt := 104) hx hb dX8_indexIn_71 rfl (fun hc => ?_) (fun hc => ?_)
          · have hf := x_ip hc hf
            exact B_X8_indexIn_104  C ih  ls _ _ _ _ _ _ _ _ kv1 (lv_sub hl [0, 1, 2, 3, 4, 5, 7] rfl) hR hS hf
          · have hf := x_in hc hf
            refine lv_iload hx hb dX8_indexIn_74 (lv_at hl 5 rfl) ?_
            refine lv_iload_n hx hb dX8_indexIn_76 rfl (lv_at hl 3 rfl) ?_
            refine lv_iload_n hx hb dX8_indexIn_77 rfl (lv_at hl 2 rfl) ?_
            refine lv_isub hx hb dX8_indexIn_78 ?_
            refine lv_icmp_ge (tgt := 104) hx hb dX8_indexIn_79 rfl (fun hc => ?_) (fun hc => ?_)
            · have hf := x_ip hc hf
              exact B_X8_indexIn_104  C ih  ls _ _ _ _ _ _ _ _ kv1 (lv_sub hl [0, 1, 2, 3, 4, 5, 7] rfl) hR hS hf
            · have hf := x_in hc hf
              refine lv_aload_n hx hb dX8_indexIn_82 rfl (lv_at hl 0 rfl) ?_
              refine gf_8_0 C hR (x_k hR 1 rfl) tw_149 dX8_indexIn_83 ?_
              refine lv_iload_n hx hb dX8_indexIn_86 rfl (lv_at hl 2 rfl) ?_
              refine lv_iload hx hb dX8_indexIn_87 (lv_at hl 5 rfl) ?_
              refine lv_iadd hx hb dX8_indexIn_89 ?_
              obtain ⟨g2, hf⟩ := x_gd hf
              refine x_iald C hR (x_k1 (x_k hR 2 rfl)) (x_k2 (x_k hR 2 rfl) g2) dX8_indexIn_90 ?_
              refine lv_aload_n hx hb dX8_indexIn_91 rfl (lv_at hl 1 rfl) ?_
              refine lv_iload hx hb dX8_indexIn_92 (lv_at hl 7 rfl) ?_
              obtain ⟨v_3, ev_3, hf⟩ := x_bd hf
              refine x_cVsi1 C hR hS (S_J0_charAt_5068e kv1 ev_3) kv1 rfl mf_J0_charAt_5068e tw_669 (Nat.le_of_ble_eq_true rfl) (Nat.le_of_ble_eq_true rfl) hl.1 (Nat.le_of_ble_eq_true rfl) dX8_indexIn_94 ⟨Nat.le_refl _, Nat.le_refl _⟩ (fun H locs hR hS => ?_)
              have kM4 : ∀ (ls : Array Slot) (H : Heap) (locs : List Loc), lv_has ls 8 [(0, .ref (oX O + 1)), (1, .ref (oK O v1)), (2, .int v2), (3, .int v3), (4, .int v4), (5, .int v5), (7, .int v7)] → x_R O K h H → va_S (oA O) s.heap H locs → W p l e (x_rm 4 122) s m args below meth c H locs 0 0 (MQ below (x_Qc O K h (some (.int r))) args s 0 0 (oA O)) (F0 m 105 ls [.int (if (h.1 (oX O + 2) (v2 + v5).toNatClampNeg) = v_3 then 1 else 0)]) := by
                intro ls H locs hl hR hS
                obtain ⟨t5, et5, hf⟩ := x_lt hf
                refine x_nmi et5 ?_
                refine lv_istore (lv' := [(6, _), (0, _), (1, _), (2, _), (3, _), (4, _), (5, _), (7, _)]) hx hb dX8_indexIn_105 hl (Nat.le_of_ble_eq_true rfl) rfl (fun ls hl => ?_)
                refine lv_iinc (k := 6) (v := _ + 1) (lv' := [(5, _), (6, _), (0, _), (1, _), (2, _), (3, _), (4, _), (7, _)]) hx hb dX8_indexIn_107 hl rfl (x_inc 1 1 rfl _) (Nat.le_of_ble_eq_true rfl) rfl (fun ls hl => ?_)
                exact B_X8_indexIn_110  C ih  ls _ _ _ _ _ _ _ _ _ kv1 (lv_sub hl [2, 3, 4, 5, 6, 0, 1, 7] rfl) hR hS hf
              refine lv_icmp_ne (tgt := 104) hx hb dX8_indexIn_97 rfl (fun hc => ?_) (fun hc => ?_)
              · try simp only [if_neg hc] at kM4
                refine lv_iconst (v := 0) hx hb dX8_indexIn_104 rfl ?_
                exact kM4 ls _ _ (lv_sub hl [0, 1, 2, 3, 4, 5, 7] rfl) hR hS
              · try simp only [if_pos hc] at kM4
                refine lv_iconst (v := 1) hx hb dX8_indexIn_100 rfl ?_
                refine lv_goto (tgt := 105) hx hb dX8_indexIn_101 rfl ?_
                exact kM4 ls _ _ (lv_sub hl [0, 1, 2, 3, 4, 5, 7] rfl) hR hS
        · have hf := x_ip hc hf
          exact B_X8_indexIn_41  C ih  ls _ _ _ _ _ _ _ _ _ kv1 (lv_sub hl [0, 1, 2, 3, 4, 5, 6, 7] rfl) hR hS hf
set_option maxRecDepth 20000 in
theorem S_X8_indexIn {l : Launch} {O : XO} {K : XK} {h : XH} {v1 : Nat} {v2 : Int32} {v3 : Int32}  {r : Int32} (k1 : v1 < 71) (hf : f_X8_indexIn (oX O) h v1 v2 v3 = some r) : x_M l O K yX8_indexIn cX8_indexIn 8 (some .int) 4 122 h [.ref (oX O + 1), .ref (oK O v1), .int v2, .int v3] (some (.int r)) h := by
  refine x_enter (by decide) (Nat.le_of_ble_eq_true rfl) (fun p e s m args below meth c C hR ls hl => ?_)
  have hS : va_S (oA O) s.heap s.heap [] := va_S.rf
  have hx := C.1
  have hb := C.2.1
  have hl : lv_has ls 8 [(0, .ref (oX O + 1)), (1, .ref (oK O v1)), (2, .int v2), (3, .int v3)] := hl
  rw [f_X8_indexIn] at hf
  refine lv_iconst (v := 0) hx hb dX8_indexIn_0 rfl ?_
  refine lv_istore (lv' := [(4, _), (0, _), (1, _), (2, _), (3, _)]) hx hb dX8_indexIn_1 hl (Nat.le_of_ble_eq_true rfl) rfl (fun ls hl => ?_)
  refine lv_iconst (v := 0) hx hb dX8_indexIn_3 rfl ?_
  refine lv_istore (lv' := [(5, _), (4, _), (0, _), (1, _), (2, _), (3, _)]) hx hb dX8_indexIn_4 hl (Nat.le_of_ble_eq_true rfl) rfl (fun ls hl => ?_)
  refine lv_iconst (v := 1) hx hb dX8_indexIn_6 rfl ?_
  refine lv_istore (lv' := [(6, _), (5, _), (4, _), (0, _), (1, _), (2, _), (3, _)]) hx hb dX8_indexIn_7 hl (Nat.le_of_ble_eq_true rfl) rfl (fun ls hl => ?_)
  refine lv_iconst (v := 0) hx hb dX8_indexIn_9 rfl ?_
  refine lv_istore (lv' := [(7, _), (6, _), (5, _), (4, _), (0, _), (1, _), (2, _), (3, _)]) hx hb dX8_indexIn_10 hl (Nat.le_of_ble_eq_true rfl) rfl (fun ls hl => ?_)
  exact B_X8_indexIn_12  C  x_FU ls _ _ _ _ _ _ _ _ _ k1 (lv_sub hl [4, 5, 6, 7, 3, 2, 1, 0] rfl) hR hS hf
def f_X12_isWord_67 (x : Nat) (h : XH) (v2 : Int32) : Option Int32 := if x_isb v2 = true then some v2 else none
def f_X12_isWord_24 (x : Nat) (h : XH) : Nat → Nat → Int32 → Int32 → Option Int32
  | 0, _, _, _ => none
  | n + 1, v1, v2, v3 => if v2 = 0 then f_X12_isWord_67 x h v2 else if (f_J0_length_8abf5 v1 h) ≤ v3 then f_X12_isWord_67 x h v2 else if x_b ((h.1 (x + 64) 8) + v3) 400 = true then Option.bind (f_J0_charAt_5068e v1 h v3) (fun v_5 => x_let ((if (h.1 (x + 67) ((h.1 (x + 64) 8) + v3).toNatClampNeg) = v_5 then 1 else 0) : Int32) (fun t7 => f_X12_isWord_24 x h n v1 t7 (v3 + 1))) else none
def f_X12_isWord (x : Nat) (h : XH) (v1 : Nat) : Option Int32 := x_let ((if ((h.1 (x + 64) 6) - (h.1 (x + 64) 8)) = (f_J0_length_8abf5 v1 h) then 1 else 0) : Int32) (fun t2 => f_X12_isWord_24 x h x_FU v1 t2 0)
set_option maxRecDepth 20000 in
theorem B_X12_isWord_67 {p : Program} {l : Launch} {e : Env} {s : State} {m : MethodId} {args : Array Value} {below : List Frame} {meth : Method} {c : Code} {O : XO} {K : XK} {h : XH} {r : Int32}   (C : x_C p s m args meth c O cX12_isWord 4 RX12 (some .boolean))   (ls : Array Slot) (H : Heap) (locs : List Loc) (v2 : Int32) (hl : lv_has ls 4 [(2, .int v2)]) (hR : x_R O K h H) (hS : va_S (oA O) s.heap H locs) (hf : f_X12_isWord_67 (oX O) h v2 = some r) : W p l e (x_rm 4 122) s m args below meth c H locs 0 0 (MQ below (x_Qc O K h (some (.int r))) args s 0 0 (oA O)) (F0 m 67 ls []) := by
  have hx := C.1
  have hb := C.2.1
  rw [f_X12_isWord_67] at hf
  refine lv_iload_n hx hb dX12_isWord_67 rfl (lv_at hl 0 rfl) ?_
  obtain ⟨g3, hf⟩ := x_gd hf
  cases hf
  exact x_zret C hR hS (x_isb_of g3) dX12_isWord_68
set_option maxRecDepth 20000 in
theorem B_X12_isWord_24 {p : Program} {l : Launch} {e : Env} {s : State} {m : MethodId} {args : Array Value} {below : List Frame} {meth : Method} {c : Code} {O : XO} {K : XK} {h : XH} {r : Int32}   (C : x_C p s m args meth c O cX12_isWord 4 RX12 (some .boolean))   : ∀ (n : Nat) (ls : Array Slot) (H : Heap) (locs : List Loc) (v1 : Nat) (v2 : Int32) (v3 : Int32) (kv1 : v1 < 71) (hl : lv_has ls 4 [(0, .ref (oX O + 64)), (1, .ref (oK O v1)), (2, .int v2), (3, .int v3)]) (hR : x_R O K h H) (hS : va_S (oA O) s.heap H locs) (hf : f_X12_isWord_24 (oX O) h n v1 v2 v3 = some r), W p l e (x_rm 4 122) s m args below meth c H locs 0 0 (MQ below (x_Qc O K h (some (.int r))) args s 0 0 (oA O)) (F0 m 24 ls []) := by
  have hx := C.1
  have hb := C.2.1
  intro n
  induction n with
  | zero =>
    intro ls H locs v1 v2 v3 kv1 hl hR hS hf
    rw [f_X12_isWord_24] at hf
    cases hf
  | succ n ih =>
    intro ls H locs v1 v2 v3 kv1 hl hR hS hf
    rw [f_X12_isWord_24] at hf
    refine lv_iload_n hx hb dX12_isWord_24 rfl (lv_at hl 2 rfl) ?_
    refine lv_if_eq (tgt := 67) hx hb dX12_isWord_25 rfl (fun hc => ?_) (fun hc => ?_)
    · have hf := x_ip hc hf
      exact B_X12_isWord_67  C   ls _ _ _  (lv_sub hl [2] rfl) hR hS hf
    · have hf := x_in hc hf
      refine lv_iload_n hx hb dX12_isWord_28 rfl (lv_at hl 3 rfl) ?_
      refine lv_aload_n hx hb dX12_isWord_29 rfl (lv_at hl 1 rfl) ?_
      refine x_cVsi0 C hR hS (S_J0_length_8abf5 kv1 rfl) kv1 rfl mf_J0_length_8abf5 tw_1675 (Nat.le_of_ble_eq_true rfl) (Nat.le_of_ble_eq_true rfl) hl.1 (Nat.le_of_ble_eq_true rfl) dX12_isWord_30 ⟨Nat.le_refl _, Nat.le_refl _⟩ (fun H locs hR hS => ?_)
      refine lv_icmp_ge (tgt := 67) hx hb dX12_isWord_33 rfl (fun hc => ?_) (fun hc => ?_)
      · have hf := x_ip hc hf
        exact B_X12_isWord_67  C   ls _ _ _  (lv_sub hl [2] rfl) hR hS hf
      · have hf := x_in hc hf
        refine lv_aload_n hx hb dX12_isWord_36 rfl (lv_at hl 0 rfl) ?_
        refine gf_12_4 C hR (x_k hR 64 rfl) tw_1547 dX12_isWord_37 ?_
        refine lv_aload_n hx hb dX12_isWord_40 rfl (lv_at hl 0 rfl) ?_
        refine gf_12_8 C hR (x_k hR 64 rfl) tw_1551 dX12_isWord_41 ?_
        refine lv_iload_n hx hb dX12_isWord_44 rfl (lv_at hl 3 rfl) ?_
        refine lv_iadd hx hb dX12_isWord_45 ?_
        obtain ⟨g4, hf⟩ := x_gd hf
        refine x_bald C hR (x_k1 (x_k hR 67 rfl)) (x_k2 (x_k hR 67 rfl) g4) dX12_isWord_46 ?_
        refine lv_aload_n hx hb dX12_isWord_47 rfl (lv_at hl 1 rfl) ?_
        refine lv_iload_n hx hb dX12_isWord_48 rfl (lv_at hl 3 rfl) ?_
        obtain ⟨v_5, ev_5, hf⟩ := x_bd hf
        refine x_cVsi1 C hR hS (S_J0_charAt_5068e kv1 ev_5) kv1 rfl mf_J0_charAt_5068e tw_1676 (Nat.le_of_ble_eq_true rfl) (Nat.le_of_ble_eq_true rfl) hl.1 (Nat.le_of_ble_eq_true rfl) dX12_isWord_49 ⟨Nat.le_refl _, Nat.le_refl _⟩ (fun H locs hR hS => ?_)
        have kM6 : ∀ (ls : Array Slot) (H : Heap) (locs : List Loc), lv_has ls 4 [(0, .ref (oX O + 64)), (1, .ref (oK O v1)), (3, .int v3)] → x_R O K h H → va_S (oA O) s.heap H locs → W p l e (x_rm 4 122) s m args below meth c H locs 0 0 (MQ below (x_Qc O K h (some (.int r))) args s 0 0 (oA O)) (F0 m 60 ls [.int (if (h.1 (oX O + 67) ((h.1 (oX O + 64) 8) + v3).toNatClampNeg) = v_5 then 1 else 0)]) := by
          intro ls H locs hl hR hS
          obtain ⟨t7, et7, hf⟩ := x_lt hf
          refine x_nmi et7 ?_
          refine lv_istore_n (lv' := [(2, _), (0, _), (1, _), (3, _)]) hx hb dX12_isWord_60 rfl hl (Nat.le_of_ble_eq_true rfl) rfl (fun ls hl => ?_)
          refine lv_iinc (k := 3) (v := _ + 1) (lv' := [(3, _), (2, _), (0, _), (1, _)]) hx hb dX12_isWord_61 hl rfl (x_inc 1 1 rfl _) (Nat.le_of_ble_eq_true rfl) rfl (fun ls hl => ?_)
          refine lv_goto (tgt := 24) hx hb dX12_isWord_64 rfl ?_
          exact ih ls _ _ _ _ _ kv1 (lv_sub hl [2, 3, 1, 0] rfl) hR hS hf
        refine lv_icmp_ne (tgt := 59) hx hb dX12_isWord_52 rfl (fun hc => ?_) (fun hc => ?_)
        · try simp only [if_neg hc] at kM6
          refine lv_iconst (v := 0) hx hb dX12_isWord_59 rfl ?_
          exact kM6 ls _ _ (lv_sub hl [0, 1, 3] rfl) hR hS
        · try simp only [if_pos hc] at kM6
          refine lv_iconst (v := 1) hx hb dX12_isWord_55 rfl ?_
          refine lv_goto (tgt := 60) hx hb dX12_isWord_56 rfl ?_
          exact kM6 ls _ _ (lv_sub hl [0, 1, 3] rfl) hR hS
set_option maxRecDepth 20000 in
theorem S_X12_isWord {l : Launch} {O : XO} {K : XK} {h : XH} {v1 : Nat}  {r : Int32} (k1 : v1 < 71) (hf : f_X12_isWord (oX O) h v1 = some r) : x_M l O K yX12_isWord cX12_isWord 4 (some .boolean) 4 122 h [.ref (oX O + 64), .ref (oK O v1)] (some (.int r)) h := by
  refine x_enter (by decide) (Nat.le_of_ble_eq_true rfl) (fun p e s m args below meth c C hR ls hl => ?_)
  have hS : va_S (oA O) s.heap s.heap [] := va_S.rf
  have hx := C.1
  have hb := C.2.1
  have hl : lv_has ls 4 [(0, .ref (oX O + 64)), (1, .ref (oK O v1))] := hl
  rw [f_X12_isWord] at hf
  refine lv_aload_n hx hb dX12_isWord_0 rfl (lv_at hl 0 rfl) ?_
  refine gf_12_6 C hR (x_k hR 64 rfl) tw_1549 dX12_isWord_1 ?_
  refine lv_aload_n hx hb dX12_isWord_4 rfl (lv_at hl 0 rfl) ?_
  refine gf_12_8 C hR (x_k hR 64 rfl) tw_1551 dX12_isWord_5 ?_
  refine lv_isub hx hb dX12_isWord_8 ?_
  refine lv_aload_n hx hb dX12_isWord_9 rfl (lv_at hl 1 rfl) ?_
  refine x_cVsi0 C hR hS (S_J0_length_8abf5 k1 rfl) k1 rfl mf_J0_length_8abf5 tw_1675 (Nat.le_of_ble_eq_true rfl) (Nat.le_of_ble_eq_true rfl) hl.1 (Nat.le_of_ble_eq_true rfl) dX12_isWord_10 ⟨Nat.le_refl _, Nat.le_refl _⟩ (fun H locs hR hS => ?_)
  have kM1 : ∀ (ls : Array Slot) (H : Heap) (locs : List Loc), lv_has ls 4 [(0, .ref (oX O + 64)), (1, .ref (oK O v1))] → x_R O K h H → va_S (oA O) s.heap H locs → W p l e (x_rm 4 122) s m args below meth c H locs 0 0 (MQ below (x_Qc O K h (some (.int r))) args s 0 0 (oA O)) (F0 m 21 ls [.int (if ((h.1 (oX O + 64) 6) - (h.1 (oX O + 64) 8)) = (f_J0_length_8abf5 v1 h) then 1 else 0)]) := by
    intro ls H locs hl hR hS
    obtain ⟨t2, et2, hf⟩ := x_lt hf
    refine x_nmi et2 ?_
    refine lv_istore_n (lv' := [(2, _), (0, _), (1, _)]) hx hb dX12_isWord_21 rfl hl (Nat.le_of_ble_eq_true rfl) rfl (fun ls hl => ?_)
    refine lv_iconst (v := 0) hx hb dX12_isWord_22 rfl ?_
    refine lv_istore_n (lv' := [(3, _), (2, _), (0, _), (1, _)]) hx hb dX12_isWord_23 rfl hl (Nat.le_of_ble_eq_true rfl) rfl (fun ls hl => ?_)
    exact B_X12_isWord_24  C  x_FU ls _ _ _ _ _ k1 (lv_sub hl [2, 3, 1, 0] rfl) hR hS hf
  refine lv_icmp_ne (tgt := 20) hx hb dX12_isWord_13 rfl (fun hc => ?_) (fun hc => ?_)
  · try simp only [if_neg hc] at kM1
    refine lv_iconst (v := 0) hx hb dX12_isWord_20 rfl ?_
    exact kM1 ls _ _ (lv_sub hl [0, 1] rfl) hR hS
  · try simp only [if_pos hc] at kM1
    refine lv_iconst (v := 1) hx hb dX12_isWord_16 rfl ?_
    refine lv_goto (tgt := 21) hx hb dX12_isWord_17 rfl ?_
    exact kM1 ls _ _ (lv_sub hl [0, 1] rfl) hR hS
def f_X12_passes (x : Nat) (h : XH) (v1 : Nat) : Option (Int32 × XH) := Option.bind (f_X12_letters x h) (fun h1 => Option.bind (f_X12_isWord x h1 v1) (fun v_2 => if v_2 = 0 then x_let (x_i h1 (x + 64) 6 (h1.1 (x + 64) 8)) (fun h3 => some (0, h3)) else some (1, h1)))
set_option maxRecDepth 20000 in
theorem S_X12_passes {l : Launch} {O : XO} {K : XK} {h : XH} {v1 : Nat}  {r : Int32} {h' : XH} (k1 : v1 < 71) (hf : f_X12_passes (oX O) h v1 = some (r, h')) : x_M l O K yX12_passes cX12_passes 2 (some .boolean) 5 145 h [.ref (oX O + 64), .ref (oK O v1)] (some (.int r)) h' := by
  refine x_enter (by decide) (Nat.le_of_ble_eq_true rfl) (fun p e s m args below meth c C hR ls hl => ?_)
  have hS : va_S (oA O) s.heap s.heap [] := va_S.rf
  have hx := C.1
  have hb := C.2.1
  have hl : lv_has ls 2 [(0, .ref (oX O + 64)), (1, .ref (oK O v1))] := hl
  rw [f_X12_passes] at hf
  refine lv_aload_n hx hb dX12_passes_0 rfl (lv_at hl 0 rfl) ?_
  obtain ⟨h1, eh1, hf⟩ := x_bd hf
  refine x_cVv0 C hR hS (S_X12_letters  eh1) (x_k hR 64 rfl) (by decide) rfl mf_X12_letters tw_1660 (Nat.le_of_ble_eq_true rfl) (Nat.le_of_ble_eq_true rfl) hl.1 (Nat.le_of_ble_eq_true rfl) dX12_passes_1 ⟨Nat.le_refl _, Nat.le_refl _⟩ (fun H locs hR hS => ?_)
  refine lv_aload_n hx hb dX12_passes_4 rfl (lv_at hl 0 rfl) ?_
  refine lv_aload_n hx hb dX12_passes_5 rfl (lv_at hl 1 rfl) ?_
  obtain ⟨v_2, ev_2, hf⟩ := x_bd hf
  refine x_cVi1 C hR hS (S_X12_isWord k1 ev_2) (x_k hR 64 rfl) (by decide) rfl mf_X12_isWord tw_1671 (Nat.le_of_ble_eq_true rfl) (Nat.le_of_ble_eq_true rfl) hl.1 (Nat.le_of_ble_eq_true rfl) dX12_passes_6 ⟨Nat.le_refl _, Nat.le_refl _⟩ (fun H locs hR hS => ?_)
  refine lv_if_eq (tgt := 14) hx hb dX12_passes_9 rfl (fun hc => ?_) (fun hc => ?_)
  · have hf := x_ip hc hf
    refine lv_aload_n hx hb dX12_passes_14 rfl (lv_at hl 0 rfl) ?_
    refine lv_aload_n hx hb dX12_passes_15 rfl (lv_at hl 0 rfl) ?_
    refine gf_12_8 C hR (x_k hR 64 rfl) tw_1551 dX12_passes_16 ?_
    obtain ⟨h3, eh3, hf⟩ := x_lt hf
    refine pf_12_6 C hR hS (x_k hR 64 rfl) tw_1549 dX12_passes_19 (fun H locs hR hS => ?_)
    rw [← eh3] at hR
    refine lv_iconst (v := 0) hx hb dX12_passes_22 rfl ?_
    cases hf
    exact x_zret C hR hS (Or.inl rfl) dX12_passes_23
  · have hf := x_in hc hf
    refine lv_iconst (v := 1) hx hb dX12_passes_12 rfl ?_
    cases hf
    exact x_zret C hR hS (Or.inr rfl) dX12_passes_13
def f_X12_factAt (x : Nat) (h : XH) : Option Int32 := if (h.1 (x + 64) 13) = 0 then Option.bind (f_X12_isWord x h 56) (fun v_1 => if v_1 = 0 then Option.bind (f_X12_isWord x h 57) (fun v_2 => if v_2 = 0 then Option.bind (f_X12_isWord x h 58) (fun v_3 => if v_3 = 0 then Option.bind (f_X12_isWord x h 59) (fun v_4 => if v_4 = 0 then Option.bind (f_X12_isWord x h 60) (fun v_5 => if v_5 = 0 then Option.bind (f_X12_isWord x h 61) (fun v_6 => if v_6 = 0 then Option.bind (f_X12_isWord x h 62) (fun v_7 => if v_7 = 0 then Option.bind (f_X12_isWord x h 63) (fun v_8 => some (if v_8 = 0 then (-1) else 7)) else some 6) else some 5) else some 4) else some 3) else some 2) else some 1) else some 0) else Option.bind (f_X12_isWord x h 52) (fun v_10 => if v_10 = 0 then Option.bind (f_X12_isWord x h 53) (fun v_11 => if v_11 = 0 then Option.bind (f_X12_isWord x h 54) (fun v_12 => if v_12 = 0 then Option.bind (f_X12_isWord x h 55) (fun v_13 => some (if v_13 = 0 then (-1) else 3)) else some 2) else some 1) else some 0)
set_option maxRecDepth 20000 in
theorem S_X12_factAt {l : Launch} {O : XO} {K : XK} {h : XH}  {r : Int32}  (hf : f_X12_factAt (oX O) h = some r) : x_M l O K yX12_factAt cX12_factAt 1 (some .int) 5 145 h [.ref (oX O + 64)] (some (.int r)) h := by
  refine x_enter (by decide) (Nat.le_of_ble_eq_true rfl) (fun p e s m args below meth c C hR ls hl => ?_)
  have hS : va_S (oA O) s.heap s.heap [] := va_S.rf
  have hx := C.1
  have hb := C.2.1
  have hl : lv_has ls 1 [(0, .ref (oX O + 64))] := hl
  rw [f_X12_factAt] at hf
  refine lv_aload_n hx hb dX12_factAt_0 rfl (lv_at hl 0 rfl) ?_
  refine gf_12_13 C hR (x_k hR 64 rfl) tw_1556 dX12_factAt_1 ?_
  refine lv_if_eq (tgt := 61) hx hb dX12_factAt_4 rfl (fun hc => ?_) (fun hc => ?_)
  · have hf := x_ip hc hf
    refine lv_aload_n hx hb dX12_factAt_61 rfl (lv_at hl 0 rfl) ?_
    refine va_ldcS hx hb C.2.2.2.1 (xs_56 C) dX12_factAt_62 ?_
    obtain ⟨v_1, ev_1, hf⟩ := x_bd hf
    refine x_cVi1 C hR hS (S_X12_isWord (by decide) ev_1) (x_k hR 64 rfl) (by decide) rfl mf_X12_isWord tw_1671 (Nat.le_of_ble_eq_true rfl) (Nat.le_of_ble_eq_true rfl) hl.1 (Nat.le_of_ble_eq_true rfl) dX12_factAt_64 ⟨Nat.le_refl _, Nat.le_refl _⟩ (fun H locs hR hS => ?_)
    refine lv_if_eq (tgt := 74) hx hb dX12_factAt_67 rfl (fun hc => ?_) (fun hc => ?_)
    · have hf := x_ip hc hf
      refine lv_aload_n hx hb dX12_factAt_74 rfl (lv_at hl 0 rfl) ?_
      refine va_ldcS hx hb C.2.2.2.1 (xs_57 C) dX12_factAt_75 ?_
      obtain ⟨v_2, ev_2, hf⟩ := x_bd hf
      refine x_cVi1 C hR hS (S_X12_isWord (by decide) ev_2) (x_k hR 64 rfl) (by decide) rfl mf_X12_isWord tw_1671 (Nat.le_of_ble_eq_true rfl) (Nat.le_of_ble_eq_true rfl) hl.1 (Nat.le_of_ble_eq_true rfl) dX12_factAt_77 ⟨Nat.le_refl _, Nat.le_refl _⟩ (fun H locs hR hS => ?_)
      refine lv_if_eq (tgt := 87) hx hb dX12_factAt_80 rfl (fun hc => ?_) (fun hc => ?_)
      · have hf := x_ip hc hf
        refine lv_aload_n hx hb dX12_factAt_87 rfl (lv_at hl 0 rfl) ?_
        refine va_ldcS hx hb C.2.2.2.1 (xs_58 C) dX12_factAt_88 ?_
        obtain ⟨v_3, ev_3, hf⟩ := x_bd hf
        refine x_cVi1 C hR hS (S_X12_isWord (by decide) ev_3) (x_k hR 64 rfl) (by decide) rfl mf_X12_isWord tw_1671 (Nat.le_of_ble_eq_true rfl) (Nat.le_of_ble_eq_true rfl) hl.1 (Nat.le_of_ble_eq_true rfl) dX12_factAt_90 ⟨Nat.le_refl _, Nat.le_refl _⟩ (fun H locs hR hS => ?_)
        refine lv_if_eq (tgt := 100) hx hb dX12_factAt_93 rfl (fun hc => ?_) (fun hc => ?_)
        · have hf := x_ip hc hf
          refine lv_aload_n hx hb dX12_factAt_100 rfl (lv_at hl 0 rfl) ?_
          refine va_ldcS hx hb C.2.2.2.1 (xs_59 C) dX12_factAt_101 ?_
          obtain ⟨v_4, ev_4, hf⟩ := x_bd hf
          refine x_cVi1 C hR hS (S_X12_isWord (by decide) ev_4) (x_k hR 64 rfl) (by decide) rfl mf_X12_isWord tw_1671 (Nat.le_of_ble_eq_true rfl) (Nat.le_of_ble_eq_true rfl) hl.1 (Nat.le_of_ble_eq_true rfl) dX12_factAt_103 ⟨Nat.le_refl _, Nat.le_refl _⟩ (fun H locs hR hS => ?_)
          refine lv_if_eq (tgt := 113) hx hb dX12_factAt_106 rfl (fun hc => ?_) (fun hc => ?_)
          · have hf := x_ip hc hf
            refine lv_aload_n hx hb dX12_factAt_113 rfl (lv_at hl 0 rfl) ?_
            refine va_ldcS hx hb C.2.2.2.1 (xs_60 C) dX12_factAt_114 ?_
            obtain ⟨v_5, ev_5, hf⟩ := x_bd hf
            refine x_cVi1 C hR hS (S_X12_isWord (by decide) ev_5) (x_k hR 64 rfl) (by decide) rfl mf_X12_isWord tw_1671 (Nat.le_of_ble_eq_true rfl) (Nat.le_of_ble_eq_true rfl) hl.1 (Nat.le_of_ble_eq_true rfl) dX12_factAt_116 ⟨Nat.le_refl _, Nat.le_refl _⟩ (fun H locs hR hS => ?_)
            refine lv_if_eq (tgt := 126) hx hb dX12_factAt_119 rfl (fun hc => ?_) (fun hc => ?_)
            · have hf := x_ip hc hf
              refine lv_aload_n hx hb dX12_factAt_126 rfl (lv_at hl 0 rfl) ?_
              refine va_ldcS hx hb C.2.2.2.1 (xs_61 C) dX12_factAt_127 ?_
              obtain ⟨v_6, ev_6, hf⟩ := x_bd hf
              refine x_cVi1 C hR hS (S_X12_isWord (by decide) ev_6) (x_k hR 64 rfl) (by decide) rfl mf_X12_isWord tw_1671 (Nat.le_of_ble_eq_true rfl) (Nat.le_of_ble_eq_true rfl) hl.1 (Nat.le_of_ble_eq_true rfl) dX12_factAt_129 ⟨Nat.le_refl _, Nat.le_refl _⟩ (fun H locs hR hS => ?_)
              refine lv_if_eq (tgt := 139) hx hb dX12_factAt_132 rfl (fun hc => ?_) (fun hc => ?_)
              · have hf := x_ip hc hf
                refine lv_aload_n hx hb dX12_factAt_139 rfl (lv_at hl 0 rfl) ?_
                refine va_ldcS hx hb C.2.2.2.1 (xs_62 C) dX12_factAt_140 ?_
                obtain ⟨v_7, ev_7, hf⟩ := x_bd hf
                refine x_cVi1 C hR hS (S_X12_isWord (by decide) ev_7) (x_k hR 64 rfl) (by decide) rfl mf_X12_isWord tw_1671 (Nat.le_of_ble_eq_true rfl) (Nat.le_of_ble_eq_true rfl) hl.1 (Nat.le_of_ble_eq_true rfl) dX12_factAt_142 ⟨Nat.le_refl _, Nat.le_refl _⟩ (fun H locs hR hS => ?_)
                refine lv_if_eq (tgt := 153) hx hb dX12_factAt_145 rfl (fun hc => ?_) (fun hc => ?_)
                · have hf := x_ip hc hf
                  refine lv_aload_n hx hb dX12_factAt_153 rfl (lv_at hl 0 rfl) ?_
                  refine va_ldcS hx hb C.2.2.2.1 (xs_63 C) dX12_factAt_154 ?_
                  obtain ⟨v_8, ev_8, hf⟩ := x_bd hf
                  refine x_cVi1 C hR hS (S_X12_isWord (by decide) ev_8) (x_k hR 64 rfl) (by decide) rfl mf_X12_isWord tw_1671 (Nat.le_of_ble_eq_true rfl) (Nat.le_of_ble_eq_true rfl) hl.1 (Nat.le_of_ble_eq_true rfl) dX12_factAt_156 ⟨Nat.le_refl _, Nat.le_refl _⟩ (fun H locs hR hS => ?_)
                  have kM9 : ∀ (ls : Array Slot) (H : Heap) (locs : List Loc), lv_has ls 1 [] → x_R O K h H → va_S (oA O) s.heap H locs → W p l e (x_rm 5 145) s m args below meth c H locs 0 0 (MQ below (x_Qc O K h (some (.int r))) args s 0 0 (oA O)) (F0 m 168 ls [.int (if v_8 = 0 then (-1) else 7)]) := by
                    intro ls H locs hl hR hS
                    cases hf
                    exact x_iret C hR hS dX12_factAt_168
                  refine lv_if_eq (tgt := 167) hx hb dX12_factAt_159 rfl (fun hc => ?_) (fun hc => ?_)
                  · try simp only [if_pos hc] at kM9
                    refine lv_iconst (v := (-1)) hx hb dX12_factAt_167 rfl ?_
                    exact kM9 ls _ _ (lv_sub hl [] rfl) hR hS
                  · try simp only [if_neg hc] at kM9
                    refine lv_bipush (v := 7) hx hb dX12_factAt_162 rfl ?_
                    refine lv_goto (tgt := 168) hx hb dX12_factAt_164 rfl ?_
                    exact kM9 ls _ _ (lv_sub hl [] rfl) hR hS
                · have hf := x_in hc hf
                  refine lv_bipush (v := 6) hx hb dX12_factAt_148 rfl ?_
                  refine lv_goto (tgt := 168) hx hb dX12_factAt_150 rfl ?_
                  cases hf
                  exact x_iret C hR hS dX12_factAt_168
              · have hf := x_in hc hf
                refine lv_iconst (v := 5) hx hb dX12_factAt_135 rfl ?_
                refine lv_goto (tgt := 168) hx hb dX12_factAt_136 rfl ?_
                cases hf
                exact x_iret C hR hS dX12_factAt_168
            · have hf := x_in hc hf
              refine lv_iconst (v := 4) hx hb dX12_factAt_122 rfl ?_
              refine lv_goto (tgt := 168) hx hb dX12_factAt_123 rfl ?_
              cases hf
              exact x_iret C hR hS dX12_factAt_168
          · have hf := x_in hc hf
            refine lv_iconst (v := 3) hx hb dX12_factAt_109 rfl ?_
            refine lv_goto (tgt := 168) hx hb dX12_factAt_110 rfl ?_
            cases hf
            exact x_iret C hR hS dX12_factAt_168
        · have hf := x_in hc hf
          refine lv_iconst (v := 2) hx hb dX12_factAt_96 rfl ?_
          refine lv_goto (tgt := 168) hx hb dX12_factAt_97 rfl ?_
          cases hf
          exact x_iret C hR hS dX12_factAt_168
      · have hf := x_in hc hf
        refine lv_iconst (v := 1) hx hb dX12_factAt_83 rfl ?_
        refine lv_goto (tgt := 168) hx hb dX12_factAt_84 rfl ?_
        cases hf
        exact x_iret C hR hS dX12_factAt_168
    · have hf := x_in hc hf
      refine lv_iconst (v := 0) hx hb dX12_factAt_70 rfl ?_
      refine lv_goto (tgt := 168) hx hb dX12_factAt_71 rfl ?_
      cases hf
      exact x_iret C hR hS dX12_factAt_168
  · have hf := x_in hc hf
    refine lv_aload_n hx hb dX12_factAt_7 rfl (lv_at hl 0 rfl) ?_
    refine va_ldcS hx hb C.2.2.2.1 (xs_52 C) dX12_factAt_8 ?_
    obtain ⟨v_10, ev_10, hf⟩ := x_bd hf
    refine x_cVi1 C hR hS (S_X12_isWord (by decide) ev_10) (x_k hR 64 rfl) (by decide) rfl mf_X12_isWord tw_1671 (Nat.le_of_ble_eq_true rfl) (Nat.le_of_ble_eq_true rfl) hl.1 (Nat.le_of_ble_eq_true rfl) dX12_factAt_10 ⟨Nat.le_refl _, Nat.le_refl _⟩ (fun H locs hR hS => ?_)
    refine lv_if_eq (tgt := 20) hx hb dX12_factAt_13 rfl (fun hc => ?_) (fun hc => ?_)
    · have hf := x_ip hc hf
      refine lv_aload_n hx hb dX12_factAt_20 rfl (lv_at hl 0 rfl) ?_
      refine va_ldcS hx hb C.2.2.2.1 (xs_53 C) dX12_factAt_21 ?_
      obtain ⟨v_11, ev_11, hf⟩ := x_bd hf
      refine x_cVi1 C hR hS (S_X12_isWord (by decide) ev_11) (x_k hR 64 rfl) (by decide) rfl mf_X12_isWord tw_1671 (Nat.le_of_ble_eq_true rfl) (Nat.le_of_ble_eq_true rfl) hl.1 (Nat.le_of_ble_eq_true rfl) dX12_factAt_23 ⟨Nat.le_refl _, Nat.le_refl _⟩ (fun H locs hR hS => ?_)
      refine lv_if_eq (tgt := 33) hx hb dX12_factAt_26 rfl (fun hc => ?_) (fun hc => ?_)
      · have hf := x_ip hc hf
        refine lv_aload_n hx hb dX12_factAt_33 rfl (lv_at hl 0 rfl) ?_
        refine va_ldcS hx hb C.2.2.2.1 (xs_54 C) dX12_factAt_34 ?_
        obtain ⟨v_12, ev_12, hf⟩ := x_bd hf
        refine x_cVi1 C hR hS (S_X12_isWord (by decide) ev_12) (x_k hR 64 rfl) (by decide) rfl mf_X12_isWord tw_1671 (Nat.le_of_ble_eq_true rfl) (Nat.le_of_ble_eq_true rfl) hl.1 (Nat.le_of_ble_eq_true rfl) dX12_factAt_36 ⟨Nat.le_refl _, Nat.le_refl _⟩ (fun H locs hR hS => ?_)
        refine lv_if_eq (tgt := 46) hx hb dX12_factAt_39 rfl (fun hc => ?_) (fun hc => ?_)
        · have hf := x_ip hc hf
          refine lv_aload_n hx hb dX12_factAt_46 rfl (lv_at hl 0 rfl) ?_
          refine va_ldcS hx hb C.2.2.2.1 (xs_55 C) dX12_factAt_47 ?_
          obtain ⟨v_13, ev_13, hf⟩ := x_bd hf
          refine x_cVi1 C hR hS (S_X12_isWord (by decide) ev_13) (x_k hR 64 rfl) (by decide) rfl mf_X12_isWord tw_1671 (Nat.le_of_ble_eq_true rfl) (Nat.le_of_ble_eq_true rfl) hl.1 (Nat.le_of_ble_eq_true rfl) dX12_factAt_49 ⟨Nat.le_refl _, Nat.le_refl _⟩ (fun H locs hR hS => ?_)
          have kM14 : ∀ (ls : Array Slot) (H : Heap) (locs : List Loc), lv_has ls 1 [] → x_R O K h H → va_S (oA O) s.heap H locs → W p l e (x_rm 5 145) s m args below meth c H locs 0 0 (MQ below (x_Qc O K h (some (.int r))) args s 0 0 (oA O)) (F0 m 60 ls [.int (if v_13 = 0 then (-1) else 3)]) := by
            intro ls H locs hl hR hS
            cases hf
            exact x_iret C hR hS dX12_factAt_60
          refine lv_if_eq (tgt := 59) hx hb dX12_factAt_52 rfl (fun hc => ?_) (fun hc => ?_)
          · try simp only [if_pos hc] at kM14
            refine lv_iconst (v := (-1)) hx hb dX12_factAt_59 rfl ?_
            exact kM14 ls _ _ (lv_sub hl [] rfl) hR hS
          · try simp only [if_neg hc] at kM14
            refine lv_iconst (v := 3) hx hb dX12_factAt_55 rfl ?_
            refine lv_goto (tgt := 60) hx hb dX12_factAt_56 rfl ?_
            exact kM14 ls _ _ (lv_sub hl [] rfl) hR hS
        · have hf := x_in hc hf
          refine lv_iconst (v := 2) hx hb dX12_factAt_42 rfl ?_
          refine lv_goto (tgt := 60) hx hb dX12_factAt_43 rfl ?_
          cases hf
          exact x_iret C hR hS dX12_factAt_60
      · have hf := x_in hc hf
        refine lv_iconst (v := 1) hx hb dX12_factAt_29 rfl ?_
        refine lv_goto (tgt := 60) hx hb dX12_factAt_30 rfl ?_
        cases hf
        exact x_iret C hR hS dX12_factAt_60
    · have hf := x_in hc hf
      refine lv_iconst (v := 0) hx hb dX12_factAt_16 rfl ?_
      refine lv_goto (tgt := 60) hx hb dX12_factAt_17 rfl ?_
      cases hf
      exact x_iret C hR hS dX12_factAt_60
def f_X12_tagAt (x : Nat) (h : XH) : Option Int32 := if (h.1 (x + 64) 13) = 0 then Option.bind (f_X12_isWord x h 67) (fun v_1 => if v_1 = 0 then Option.bind (f_X12_isWord x h 68) (fun v_2 => some (if v_2 = 0 then (-1) else 9)) else some 8) else Option.bind (f_X12_isWord x h 66) (fun v_4 => some (if v_4 = 0 then (-1) else 8))
set_option maxRecDepth 20000 in
theorem S_X12_tagAt {l : Launch} {O : XO} {K : XK} {h : XH}  {r : Int32}  (hf : f_X12_tagAt (oX O) h = some r) : x_M l O K yX12_tagAt cX12_tagAt 1 (some .int) 5 145 h [.ref (oX O + 64)] (some (.int r)) h := by
  refine x_enter (by decide) (Nat.le_of_ble_eq_true rfl) (fun p e s m args below meth c C hR ls hl => ?_)
  have hS : va_S (oA O) s.heap s.heap [] := va_S.rf
  have hx := C.1
  have hb := C.2.1
  have hl : lv_has ls 1 [(0, .ref (oX O + 64))] := hl
  rw [f_X12_tagAt] at hf
  refine lv_aload_n hx hb dX12_tagAt_0 rfl (lv_at hl 0 rfl) ?_
  refine gf_12_13 C hR (x_k hR 64 rfl) tw_1556 dX12_tagAt_1 ?_
  refine lv_if_eq (tgt := 23) hx hb dX12_tagAt_4 rfl (fun hc => ?_) (fun hc => ?_)
  · have hf := x_ip hc hf
    refine lv_aload_n hx hb dX12_tagAt_23 rfl (lv_at hl 0 rfl) ?_
    refine va_ldcS hx hb C.2.2.2.1 (xs_67 C) dX12_tagAt_24 ?_
    obtain ⟨v_1, ev_1, hf⟩ := x_bd hf
    refine x_cVi1 C hR hS (S_X12_isWord (by decide) ev_1) (x_k hR 64 rfl) (by decide) rfl mf_X12_isWord tw_1671 (Nat.le_of_ble_eq_true rfl) (Nat.le_of_ble_eq_true rfl) hl.1 (Nat.le_of_ble_eq_true rfl) dX12_tagAt_26 ⟨Nat.le_refl _, Nat.le_refl _⟩ (fun H locs hR hS => ?_)
    refine lv_if_eq (tgt := 37) hx hb dX12_tagAt_29 rfl (fun hc => ?_) (fun hc => ?_)
    · have hf := x_ip hc hf
      refine lv_aload_n hx hb dX12_tagAt_37 rfl (lv_at hl 0 rfl) ?_
      refine va_ldcS hx hb C.2.2.2.1 (xs_68 C) dX12_tagAt_38 ?_
      obtain ⟨v_2, ev_2, hf⟩ := x_bd hf
      refine x_cVi1 C hR hS (S_X12_isWord (by decide) ev_2) (x_k hR 64 rfl) (by decide) rfl mf_X12_isWord tw_1671 (Nat.le_of_ble_eq_true rfl) (Nat.le_of_ble_eq_true rfl) hl.1 (Nat.le_of_ble_eq_true rfl) dX12_tagAt_40 ⟨Nat.le_refl _, Nat.le_refl _⟩ (fun H locs hR hS => ?_)
      have kM3 : ∀ (ls : Array Slot) (H : Heap) (locs : List Loc), lv_has ls 1 [] → x_R O K h H → va_S (oA O) s.heap H locs → W p l e (x_rm 5 145) s m args below meth c H locs 0 0 (MQ below (x_Qc O K h (some (.int r))) args s 0 0 (oA O)) (F0 m 52 ls [.int (if v_2 = 0 then (-1) else 9)]) := by
        intro ls H locs hl hR hS
        cases hf
        exact x_iret C hR hS dX12_tagAt_52
      refine lv_if_eq (tgt := 51) hx hb dX12_tagAt_43 rfl (fun hc => ?_) (fun hc => ?_)
      · try simp only [if_pos hc] at kM3
        refine lv_iconst (v := (-1)) hx hb dX12_tagAt_51 rfl ?_
        exact kM3 ls _ _ (lv_sub hl [] rfl) hR hS
      · try simp only [if_neg hc] at kM3
        refine lv_bipush (v := 9) hx hb dX12_tagAt_46 rfl ?_
        refine lv_goto (tgt := 52) hx hb dX12_tagAt_48 rfl ?_
        exact kM3 ls _ _ (lv_sub hl [] rfl) hR hS
    · have hf := x_in hc hf
      refine lv_bipush (v := 8) hx hb dX12_tagAt_32 rfl ?_
      refine lv_goto (tgt := 52) hx hb dX12_tagAt_34 rfl ?_
      cases hf
      exact x_iret C hR hS dX12_tagAt_52
  · have hf := x_in hc hf
    refine lv_aload_n hx hb dX12_tagAt_7 rfl (lv_at hl 0 rfl) ?_
    refine va_ldcS hx hb C.2.2.2.1 (xs_66 C) dX12_tagAt_8 ?_
    obtain ⟨v_4, ev_4, hf⟩ := x_bd hf
    refine x_cVi1 C hR hS (S_X12_isWord (by decide) ev_4) (x_k hR 64 rfl) (by decide) rfl mf_X12_isWord tw_1671 (Nat.le_of_ble_eq_true rfl) (Nat.le_of_ble_eq_true rfl) hl.1 (Nat.le_of_ble_eq_true rfl) dX12_tagAt_10 ⟨Nat.le_refl _, Nat.le_refl _⟩ (fun H locs hR hS => ?_)
    have kM5 : ∀ (ls : Array Slot) (H : Heap) (locs : List Loc), lv_has ls 1 [] → x_R O K h H → va_S (oA O) s.heap H locs → W p l e (x_rm 5 145) s m args below meth c H locs 0 0 (MQ below (x_Qc O K h (some (.int r))) args s 0 0 (oA O)) (F0 m 22 ls [.int (if v_4 = 0 then (-1) else 8)]) := by
      intro ls H locs hl hR hS
      cases hf
      exact x_iret C hR hS dX12_tagAt_22
    refine lv_if_eq (tgt := 21) hx hb dX12_tagAt_13 rfl (fun hc => ?_) (fun hc => ?_)
    · try simp only [if_pos hc] at kM5
      refine lv_iconst (v := (-1)) hx hb dX12_tagAt_21 rfl ?_
      exact kM5 ls _ _ (lv_sub hl [] rfl) hR hS
    · try simp only [if_neg hc] at kM5
      refine lv_bipush (v := 8) hx hb dX12_tagAt_16 rfl ?_
      refine lv_goto (tgt := 22) hx hb dX12_tagAt_18 rfl ?_
      exact kM5 ls _ _ (lv_sub hl [] rfl) hR hS
def f_X12_readPart (x : Nat) (h : XH) : Option (Int32 × XH) := Option.bind (f_X12_letters x h) (fun h1 => if (h1.1 (x + 64) 6) = (h1.1 (x + 64) 8) then Option.bind (f_X12_number x h1) (fun q5 => Option.bind (f_X12_emits x q5.2 10 q5.1) (fun h6 => some ((if q5.1 < 0 then 0 else 1), h6))) else Option.bind (f_X12_factAt x h1) (fun v_2 => Option.bind (f_X12_emits x h1 v_2 0) (fun h3 => some ((if v_2 < 0 then 0 else 1), h3))))
set_option maxRecDepth 20000 in
theorem S_X12_readPart {l : Launch} {O : XO} {K : XK} {h : XH}  {r : Int32} {h' : XH}  (hf : f_X12_readPart (oX O) h = some (r, h')) : x_M l O K yX12_readPart cX12_readPart 2 (some .boolean) 6 165 h [.ref (oX O + 64)] (some (.int r)) h' := by
  refine x_enter (by decide) (Nat.le_of_ble_eq_true rfl) (fun p e s m args below meth c C hR ls hl => ?_)
  have hS : va_S (oA O) s.heap s.heap [] := va_S.rf
  have hx := C.1
  have hb := C.2.1
  have hl : lv_has ls 2 [(0, .ref (oX O + 64))] := hl
  rw [f_X12_readPart] at hf
  refine lv_aload_n hx hb dX12_readPart_0 rfl (lv_at hl 0 rfl) ?_
  obtain ⟨h1, eh1, hf⟩ := x_bd hf
  refine x_cVv0 C hR hS (S_X12_letters  eh1) (x_k hR 64 rfl) (by decide) rfl mf_X12_letters tw_1660 (Nat.le_of_ble_eq_true rfl) (Nat.le_of_ble_eq_true rfl) hl.1 (Nat.le_of_ble_eq_true rfl) dX12_readPart_1 ⟨Nat.le_refl _, Nat.le_refl _⟩ (fun H locs hR hS => ?_)
  refine lv_aload_n hx hb dX12_readPart_4 rfl (lv_at hl 0 rfl) ?_
  refine gf_12_6 C hR (x_k hR 64 rfl) tw_1549 dX12_readPart_5 ?_
  refine lv_aload_n hx hb dX12_readPart_8 rfl (lv_at hl 0 rfl) ?_
  refine gf_12_8 C hR (x_k hR 64 rfl) tw_1551 dX12_readPart_9 ?_
  refine lv_icmp_ne (tgt := 37) hx hb dX12_readPart_12 rfl (fun hc => ?_) (fun hc => ?_)
  · have hf := x_in hc hf
    refine lv_aload_n hx hb dX12_readPart_37 rfl (lv_at hl 0 rfl) ?_
    obtain ⟨v_2, ev_2, hf⟩ := x_bd hf
    refine x_cVi0 C hR hS (S_X12_factAt  ev_2) (x_k hR 64 rfl) (by decide) rfl mf_X12_factAt tw_1686 (Nat.le_of_ble_eq_true rfl) (Nat.le_of_ble_eq_true rfl) hl.1 (Nat.le_of_ble_eq_true rfl) dX12_readPart_38 ⟨Nat.le_refl _, Nat.le_refl _⟩ (fun H locs hR hS => ?_)
    refine lv_istore_n (lv' := [(1, _), (0, _)]) hx hb dX12_readPart_41 rfl hl (Nat.le_of_ble_eq_true rfl) rfl (fun ls hl => ?_)
    refine lv_aload_n hx hb dX12_readPart_42 rfl (lv_at hl 1 rfl) ?_
    refine lv_iload_n hx hb dX12_readPart_43 rfl (lv_at hl 0 rfl) ?_
    refine lv_iconst (v := 0) hx hb dX12_readPart_44 rfl ?_
    obtain ⟨h3, eh3, hf⟩ := x_bd hf
    refine x_cVv2 C hR hS (S_X12_emits  eh3) (x_k hR 64 rfl) (by decide) rfl mf_X12_emits tw_1720 (Nat.le_of_ble_eq_true rfl) (Nat.le_of_ble_eq_true rfl) hl.1 (Nat.le_of_ble_eq_true rfl) dX12_readPart_45 ⟨Nat.le_refl _, Nat.le_refl _⟩ (fun H locs hR hS => ?_)
    refine lv_iload_n hx hb dX12_readPart_48 rfl (lv_at hl 0 rfl) ?_
    have kM4 : ∀ (ls : Array Slot) (H : Heap) (locs : List Loc), lv_has ls 2 [] → x_R O K h3 H → va_S (oA O) s.heap H locs → W p l e (x_rm 6 165) s m args below meth c H locs 0 0 (MQ below (x_Qc O K h' (some (.int r))) args s 0 0 (oA O)) (F0 m 57 ls [.int (if v_2 < 0 then 0 else 1)]) := by
      intro ls H locs hl hR hS
      cases hf
      exact x_zret C hR hS (by (repeat' split) <;> first | exact Or.inl rfl | exact Or.inr rfl) dX12_readPart_57
    refine lv_if_lt (tgt := 56) hx hb dX12_readPart_49 rfl (fun hc => ?_) (fun hc => ?_)
    · try simp only [if_pos hc] at kM4
      refine lv_iconst (v := 0) hx hb dX12_readPart_56 rfl ?_
      exact kM4 ls _ _ (lv_sub hl [] rfl) hR hS
    · try simp only [if_neg hc] at kM4
      refine lv_iconst (v := 1) hx hb dX12_readPart_52 rfl ?_
      refine lv_goto (tgt := 57) hx hb dX12_readPart_53 rfl ?_
      exact kM4 ls _ _ (lv_sub hl [] rfl) hR hS
  · have hf := x_ip hc hf
    refine lv_aload_n hx hb dX12_readPart_15 rfl (lv_at hl 0 rfl) ?_
    obtain ⟨q5, eq5, hf⟩ := x_bd hf
    refine x_cVi0 C hR hS (S_X12_number  eq5) (x_k hR 64 rfl) (by decide) rfl mf_X12_number tw_1678 (Nat.le_of_ble_eq_true rfl) (Nat.le_of_ble_eq_true rfl) hl.1 (Nat.le_of_ble_eq_true rfl) dX12_readPart_16 ⟨Nat.le_refl _, Nat.le_refl _⟩ (fun H locs hR hS => ?_)
    refine lv_istore_n (lv' := [(1, _), (0, _)]) hx hb dX12_readPart_19 rfl hl (Nat.le_of_ble_eq_true rfl) rfl (fun ls hl => ?_)
    refine lv_aload_n hx hb dX12_readPart_20 rfl (lv_at hl 1 rfl) ?_
    refine lv_bipush (v := 10) hx hb dX12_readPart_21 rfl ?_
    refine lv_iload_n hx hb dX12_readPart_23 rfl (lv_at hl 0 rfl) ?_
    obtain ⟨h6, eh6, hf⟩ := x_bd hf
    refine x_cVv2 C hR hS (S_X12_emits  eh6) (x_k hR 64 rfl) (by decide) rfl mf_X12_emits tw_1720 (Nat.le_of_ble_eq_true rfl) (Nat.le_of_ble_eq_true rfl) hl.1 (Nat.le_of_ble_eq_true rfl) dX12_readPart_24 ⟨Nat.le_refl _, Nat.le_refl _⟩ (fun H locs hR hS => ?_)
    refine lv_iload_n hx hb dX12_readPart_27 rfl (lv_at hl 0 rfl) ?_
    have kM7 : ∀ (ls : Array Slot) (H : Heap) (locs : List Loc), lv_has ls 2 [] → x_R O K h6 H → va_S (oA O) s.heap H locs → W p l e (x_rm 6 165) s m args below meth c H locs 0 0 (MQ below (x_Qc O K h' (some (.int r))) args s 0 0 (oA O)) (F0 m 36 ls [.int (if q5.1 < 0 then 0 else 1)]) := by
      intro ls H locs hl hR hS
      cases hf
      exact x_zret C hR hS (by (repeat' split) <;> first | exact Or.inl rfl | exact Or.inr rfl) dX12_readPart_36
    refine lv_if_lt (tgt := 35) hx hb dX12_readPart_28 rfl (fun hc => ?_) (fun hc => ?_)
    · try simp only [if_pos hc] at kM7
      refine lv_iconst (v := 0) hx hb dX12_readPart_35 rfl ?_
      exact kM7 ls _ _ (lv_sub hl [] rfl) hR hS
    · try simp only [if_neg hc] at kM7
      refine lv_iconst (v := 1) hx hb dX12_readPart_31 rfl ?_
      refine lv_goto (tgt := 36) hx hb dX12_readPart_32 rfl ?_
      exact kM7 ls _ _ (lv_sub hl [] rfl) hR hS
def f_X12_readSum_9 (x : Nat) : Nat → XH → Option (Int32 × XH)
  | 0, _ => none
  | n + 1, h => Option.bind (f_X12_sign x h 43) (fun q2 => if q2.1 = 0 then some (1, q2.2) else Option.bind (f_X12_readPart x q2.2) (fun q3 => if q3.1 = 0 then some (0, q3.2) else Option.bind (f_X12_emits x q3.2 11 0) (fun h4 => f_X12_readSum_9 x n h4)))
def f_X12_readSum (x : Nat) (h : XH) : Option (Int32 × XH) := Option.bind (f_X12_readPart x h) (fun q1 => if q1.1 = 0 then some (0, q1.2) else f_X12_readSum_9 x x_FU q1.2)
set_option maxRecDepth 20000 in
theorem B_X12_readSum_9 {p : Program} {l : Launch} {e : Env} {s : State} {m : MethodId} {args : Array Value} {below : List Frame} {meth : Method} {c : Code} {O : XO} {K : XK} {r : Int32} {h' : XH}   (C : x_C p s m args meth c O cX12_readSum 1 RX12 (some .boolean))   : ∀ (n : Nat) (ls : Array Slot) (H : Heap) (locs : List Loc) (h : XH) (hl : lv_has ls 1 [(0, .ref (oX O + 64))]) (hR : x_R O K h H) (hS : va_S (oA O) s.heap H locs) (hf : f_X12_readSum_9 (oX O) n h = some (r, h')), W p l e (x_rm 7 186) s m args below meth c H locs 0 0 (MQ below (x_Qc O K h' (some (.int r))) args s 0 0 (oA O)) (F0 m 9 ls []) := by
  have hx := C.1
  have hb := C.2.1
  intro n
  induction n with
  | zero =>
    intro ls H locs h hl hR hS hf
    rw [f_X12_readSum_9] at hf
    cases hf
  | succ n ih =>
    intro ls H locs h hl hR hS hf
    rw [f_X12_readSum_9] at hf
    refine lv_aload_n hx hb dX12_readSum_9 rfl (lv_at hl 0 rfl) ?_
    refine lv_bipush (v := 43) hx hb dX12_readSum_10 rfl ?_
    obtain ⟨q2, eq2, hf⟩ := x_bd hf
    refine x_cVi1 C hR hS (S_X12_sign  eq2) (x_k hR 64 rfl) (by decide) rfl mf_X12_sign tw_1682 (Nat.le_of_ble_eq_true rfl) (Nat.le_of_ble_eq_true rfl) hl.1 (Nat.le_of_ble_eq_true rfl) dX12_readSum_12 ⟨Nat.le_refl _, Nat.le_refl _⟩ (fun H locs hR hS => ?_)
    refine lv_if_eq (tgt := 37) hx hb dX12_readSum_15 rfl (fun hc => ?_) (fun hc => ?_)
    · have hf := x_ip hc hf
      refine lv_iconst (v := 1) hx hb dX12_readSum_37 rfl ?_
      cases hf
      exact x_zret C hR hS (Or.inr rfl) dX12_readSum_38
    · have hf := x_in hc hf
      refine lv_aload_n hx hb dX12_readSum_18 rfl (lv_at hl 0 rfl) ?_
      obtain ⟨q3, eq3, hf⟩ := x_bd hf
      refine x_cVi0 C hR hS (S_X12_readPart  eq3) (x_k hR 64 rfl) (by decide) rfl mf_X12_readPart tw_1735 (Nat.le_of_ble_eq_true rfl) (Nat.le_of_ble_eq_true rfl) hl.1 (Nat.le_of_ble_eq_true rfl) dX12_readSum_19 ⟨Nat.le_refl _, Nat.le_refl _⟩ (fun H locs hR hS => ?_)
      refine lv_if_ne (tgt := 27) hx hb dX12_readSum_22 rfl (fun hc => ?_) (fun hc => ?_)
      · have hf := x_in hc hf
        refine lv_aload_n hx hb dX12_readSum_27 rfl (lv_at hl 0 rfl) ?_
        refine lv_bipush (v := 11) hx hb dX12_readSum_28 rfl ?_
        refine lv_iconst (v := 0) hx hb dX12_readSum_30 rfl ?_
        obtain ⟨h4, eh4, hf⟩ := x_bd hf
        refine x_cVv2 C hR hS (S_X12_emits  eh4) (x_k hR 64 rfl) (by decide) rfl mf_X12_emits tw_1720 (Nat.le_of_ble_eq_true rfl) (Nat.le_of_ble_eq_true rfl) hl.1 (Nat.le_of_ble_eq_true rfl) dX12_readSum_31 ⟨Nat.le_refl _, Nat.le_refl _⟩ (fun H locs hR hS => ?_)
        refine lv_goto (tgt := 9) hx hb dX12_readSum_34 rfl ?_
        exact ih ls _ _ h4  (lv_sub hl [0] rfl) hR hS hf
      · have hf := x_ip hc hf
        refine lv_iconst (v := 0) hx hb dX12_readSum_25 rfl ?_
        cases hf
        exact x_zret C hR hS (Or.inl rfl) dX12_readSum_26
set_option maxRecDepth 20000 in
theorem S_X12_readSum {l : Launch} {O : XO} {K : XK} {h : XH}  {r : Int32} {h' : XH}  (hf : f_X12_readSum (oX O) h = some (r, h')) : x_M l O K yX12_readSum cX12_readSum 1 (some .boolean) 7 186 h [.ref (oX O + 64)] (some (.int r)) h' := by
  refine x_enter (by decide) (Nat.le_of_ble_eq_true rfl) (fun p e s m args below meth c C hR ls hl => ?_)
  have hS : va_S (oA O) s.heap s.heap [] := va_S.rf
  have hx := C.1
  have hb := C.2.1
  have hl : lv_has ls 1 [(0, .ref (oX O + 64))] := hl
  rw [f_X12_readSum] at hf
  refine lv_aload_n hx hb dX12_readSum_0 rfl (lv_at hl 0 rfl) ?_
  obtain ⟨q1, eq1, hf⟩ := x_bd hf
  refine x_cVi0 C hR hS (S_X12_readPart  eq1) (x_k hR 64 rfl) (by decide) rfl mf_X12_readPart tw_1735 (Nat.le_of_ble_eq_true rfl) (Nat.le_of_ble_eq_true rfl) hl.1 (Nat.le_of_ble_eq_true rfl) dX12_readSum_1 ⟨Nat.le_refl _, Nat.le_refl _⟩ (fun H locs hR hS => ?_)
  refine lv_if_ne (tgt := 9) hx hb dX12_readSum_4 rfl (fun hc => ?_) (fun hc => ?_)
  · have hf := x_in hc hf
    exact B_X12_readSum_9  C  x_FU ls _ _ q1.2  (lv_sub hl [0] rfl) hR hS hf
  · have hf := x_ip hc hf
    refine lv_iconst (v := 0) hx hb dX12_readSum_7 rfl ?_
    cases hf
    exact x_zret C hR hS (Or.inl rfl) dX12_readSum_8
def f_X8_wordOf_67 (x : Nat) (h : XH) (v1 : Int32) (v2 : Int32) (v3 : Int32) (s1 : Nat) : Option Int32 := Option.bind (f_X8_indexIn x h s1 v1 v2) (fun v_3 => if v_3 = (-1) then some 1098 else some ((1020 + (if v3 = 0 then 4 else 8)) + v_3))
def f_X8_wordOf_35 (x : Nat) (h : XH) (v1 : Int32) (v2 : Int32) (v3 : Int32) (s1 : Nat) : Option Int32 := Option.bind (f_X8_indexIn x h s1 v1 v2) (fun v_2 => if v_2 = (-1) then if v3 = 0 then f_X8_wordOf_67 x h v1 v2 v3 4 else f_X8_wordOf_67 x h v1 v2 v3 3 else some (1000 + v_2))
def f_X8_wordOf (x : Nat) (h : XH) (v1 : Int32) (v2 : Int32) (v3 : Int32) : Option Int32 := Option.bind (f_X8_indexIn x h 0 v1 v2) (fun v_1 => if v_1 = (-1) then if v3 = 0 then f_X8_wordOf_35 x h v1 v2 v3 2 else f_X8_wordOf_35 x h v1 v2 v3 1 else some (1040 + v_1))
set_option maxRecDepth 20000 in
theorem B_X8_wordOf_67 {p : Program} {l : Launch} {e : Env} {s : State} {m : MethodId} {args : Array Value} {below : List Frame} {meth : Method} {c : Code} {O : XO} {K : XK} {h : XH} {r : Int32}   (C : x_C p s m args meth c O cX8_wordOf 7 RX8 (some .int))   (ls : Array Slot) (H : Heap) (locs : List Loc) (v1 : Int32) (v2 : Int32) (v3 : Int32) (s1 : Nat) (ks1 : s1 < 71) (hl : lv_has ls 7 [(1, .int v1), (2, .int v2), (3, .int v3)]) (hR : x_R O K h H) (hS : va_S (oA O) s.heap H locs) (hf : f_X8_wordOf_67 (oX O) h v1 v2 v3 s1 = some r) : W p l e (x_rm 5 149) s m args below meth c H locs 0 0 (MQ below (x_Qc O K h (some (.int r))) args s 0 0 (oA O)) (F0 m 67 ls [.ref (oK O s1), .ref (oX O + 1)]) := by
  have hx := C.1
  have hb := C.2.1
  rw [f_X8_wordOf_67] at hf
  refine lv_iload_n hx hb dX8_wordOf_67 rfl (lv_at hl 0 rfl) ?_
  refine lv_iload_n hx hb dX8_wordOf_68 rfl (lv_at hl 1 rfl) ?_
  obtain ⟨v_3, ev_3, hf⟩ := x_bd hf
  refine x_cVi3 C hR hS (S_X8_indexIn ks1 ev_3) (x_k hR 1 rfl) (by decide) rfl mf_X8_indexIn tw_655 (Nat.le_of_ble_eq_true rfl) (Nat.le_of_ble_eq_true rfl) hl.1 (Nat.le_of_ble_eq_true rfl) dX8_wordOf_69 ⟨Nat.le_refl _, Nat.le_refl _⟩ (fun H locs hR hS => ?_)
  refine lv_istore (lv' := [(6, _), (1, _), (2, _), (3, _)]) hx hb dX8_wordOf_72 hl (Nat.le_of_ble_eq_true rfl) rfl (fun ls hl => ?_)
  refine lv_iload hx hb dX8_wordOf_74 (lv_at hl 0 rfl) ?_
  refine lv_iconst (v := (-1)) hx hb dX8_wordOf_76 rfl ?_
  refine lv_icmp_eq (tgt := 98) hx hb dX8_wordOf_77 rfl (fun hc => ?_) (fun hc => ?_)
  · have hf := x_ip hc hf
    refine lv_sipush (v := 1098) hx hb dX8_wordOf_98 rfl ?_
    cases hf
    exact x_iret C hR hS dX8_wordOf_101
  · have hf := x_in hc hf
    refine lv_sipush (v := 1020) hx hb dX8_wordOf_80 rfl ?_
    refine lv_iload_n hx hb dX8_wordOf_83 rfl (lv_at hl 3 rfl) ?_
    have kM4 : ∀ (ls : Array Slot) (H : Heap) (locs : List Loc), lv_has ls 7 [(6, .int v_3)] → x_R O K h H → va_S (oA O) s.heap H locs → W p l e (x_rm 5 149) s m args below meth c H locs 0 0 (MQ below (x_Qc O K h (some (.int r))) args s 0 0 (oA O)) (F0 m 93 ls [.int (if v3 = 0 then 4 else 8), .int 1020]) := by
      intro ls H locs hl hR hS
      refine lv_iadd hx hb dX8_wordOf_93 ?_
      refine lv_iload hx hb dX8_wordOf_94 (lv_at hl 0 rfl) ?_
      refine lv_iadd hx hb dX8_wordOf_96 ?_
      cases hf
      exact x_iret C hR hS dX8_wordOf_97
    refine lv_if_eq (tgt := 92) hx hb dX8_wordOf_84 rfl (fun hc => ?_) (fun hc => ?_)
    · try simp only [if_pos hc] at kM4
      refine lv_iconst (v := 4) hx hb dX8_wordOf_92 rfl ?_
      exact kM4 ls _ _ (lv_sub hl [0] rfl) hR hS
    · try simp only [if_neg hc] at kM4
      refine lv_bipush (v := 8) hx hb dX8_wordOf_87 rfl ?_
      refine lv_goto (tgt := 93) hx hb dX8_wordOf_89 rfl ?_
      exact kM4 ls _ _ (lv_sub hl [0] rfl) hR hS
set_option maxRecDepth 20000 in
theorem B_X8_wordOf_35 {p : Program} {l : Launch} {e : Env} {s : State} {m : MethodId} {args : Array Value} {below : List Frame} {meth : Method} {c : Code} {O : XO} {K : XK} {h : XH} {r : Int32}   (C : x_C p s m args meth c O cX8_wordOf 7 RX8 (some .int))   (ls : Array Slot) (H : Heap) (locs : List Loc) (v1 : Int32) (v2 : Int32) (v3 : Int32) (s1 : Nat) (ks1 : s1 < 71) (hl : lv_has ls 7 [(0, .ref (oX O + 1)), (1, .int v1), (2, .int v2), (3, .int v3)]) (hR : x_R O K h H) (hS : va_S (oA O) s.heap H locs) (hf : f_X8_wordOf_35 (oX O) h v1 v2 v3 s1 = some r) : W p l e (x_rm 5 149) s m args below meth c H locs 0 0 (MQ below (x_Qc O K h (some (.int r))) args s 0 0 (oA O)) (F0 m 35 ls [.ref (oK O s1), .ref (oX O + 1)]) := by
  have hx := C.1
  have hb := C.2.1
  rw [f_X8_wordOf_35] at hf
  refine lv_iload_n hx hb dX8_wordOf_35 rfl (lv_at hl 1 rfl) ?_
  refine lv_iload_n hx hb dX8_wordOf_36 rfl (lv_at hl 2 rfl) ?_
  obtain ⟨v_2, ev_2, hf⟩ := x_bd hf
  refine x_cVi3 C hR hS (S_X8_indexIn ks1 ev_2) (x_k hR 1 rfl) (by decide) rfl mf_X8_indexIn tw_655 (Nat.le_of_ble_eq_true rfl) (Nat.le_of_ble_eq_true rfl) hl.1 (Nat.le_of_ble_eq_true rfl) dX8_wordOf_37 ⟨Nat.le_refl _, Nat.le_refl _⟩ (fun H locs hR hS => ?_)
  refine lv_istore (lv' := [(5, _), (0, _), (1, _), (2, _), (3, _)]) hx hb dX8_wordOf_40 hl (Nat.le_of_ble_eq_true rfl) rfl (fun ls hl => ?_)
  refine lv_iload hx hb dX8_wordOf_42 (lv_at hl 0 rfl) ?_
  refine lv_iconst (v := (-1)) hx hb dX8_wordOf_44 rfl ?_
  refine lv_icmp_eq (tgt := 55) hx hb dX8_wordOf_45 rfl (fun hc => ?_) (fun hc => ?_)
  · have hf := x_ip hc hf
    refine lv_aload_n hx hb dX8_wordOf_55 rfl (lv_at hl 1 rfl) ?_
    refine lv_iload_n hx hb dX8_wordOf_56 rfl (lv_at hl 4 rfl) ?_
    refine lv_if_eq (tgt := 65) hx hb dX8_wordOf_57 rfl (fun hc => ?_) (fun hc => ?_)
    · have hf := x_ip hc hf
      refine va_ldcS hx hb C.2.2.2.1 (xs_4 C) dX8_wordOf_65 ?_
      exact B_X8_wordOf_67  C   ls _ _ _ _ _ _ (by decide) (lv_sub hl [2, 3, 4] rfl) hR hS hf
    · have hf := x_in hc hf
      refine va_ldcS hx hb C.2.2.2.1 (xs_3 C) dX8_wordOf_60 ?_
      refine lv_goto (tgt := 67) hx hb dX8_wordOf_62 rfl ?_
      exact B_X8_wordOf_67  C   ls _ _ _ _ _ _ (by decide) (lv_sub hl [2, 3, 4] rfl) hR hS hf
  · have hf := x_in hc hf
    refine lv_sipush (v := 1000) hx hb dX8_wordOf_48 rfl ?_
    refine lv_iload hx hb dX8_wordOf_51 (lv_at hl 0 rfl) ?_
    refine lv_iadd hx hb dX8_wordOf_53 ?_
    cases hf
    exact x_iret C hR hS dX8_wordOf_54
set_option maxRecDepth 20000 in
theorem S_X8_wordOf {l : Launch} {O : XO} {K : XK} {h : XH} {v1 : Int32} {v2 : Int32} {v3 : Int32}  {r : Int32}  (hf : f_X8_wordOf (oX O) h v1 v2 v3 = some r) : x_M l O K yX8_wordOf cX8_wordOf 7 (some .int) 5 149 h [.ref (oX O + 1), .int v1, .int v2, .int v3] (some (.int r)) h := by
  refine x_enter (by decide) (Nat.le_of_ble_eq_true rfl) (fun p e s m args below meth c C hR ls hl => ?_)
  have hS : va_S (oA O) s.heap s.heap [] := va_S.rf
  have hx := C.1
  have hb := C.2.1
  have hl : lv_has ls 7 [(0, .ref (oX O + 1)), (1, .int v1), (2, .int v2), (3, .int v3)] := hl
  rw [f_X8_wordOf] at hf
  refine lv_aload_n hx hb dX8_wordOf_0 rfl (lv_at hl 0 rfl) ?_
  refine va_ldcS hx hb C.2.2.2.1 (xs_0 C) dX8_wordOf_1 ?_
  refine lv_iload_n hx hb dX8_wordOf_3 rfl (lv_at hl 1 rfl) ?_
  refine lv_iload_n hx hb dX8_wordOf_4 rfl (lv_at hl 2 rfl) ?_
  obtain ⟨v_1, ev_1, hf⟩ := x_bd hf
  refine x_cVi3 C hR hS (S_X8_indexIn (by decide) ev_1) (x_k hR 1 rfl) (by decide) rfl mf_X8_indexIn tw_655 (Nat.le_of_ble_eq_true rfl) (Nat.le_of_ble_eq_true rfl) hl.1 (Nat.le_of_ble_eq_true rfl) dX8_wordOf_5 ⟨Nat.le_refl _, Nat.le_refl _⟩ (fun H locs hR hS => ?_)
  refine lv_istore (lv' := [(4, _), (0, _), (1, _), (2, _), (3, _)]) hx hb dX8_wordOf_8 hl (Nat.le_of_ble_eq_true rfl) rfl (fun ls hl => ?_)
  refine lv_iload hx hb dX8_wordOf_10 (lv_at hl 0 rfl) ?_
  refine lv_iconst (v := (-1)) hx hb dX8_wordOf_12 rfl ?_
  refine lv_icmp_eq (tgt := 23) hx hb dX8_wordOf_13 rfl (fun hc => ?_) (fun hc => ?_)
  · have hf := x_ip hc hf
    refine lv_aload_n hx hb dX8_wordOf_23 rfl (lv_at hl 1 rfl) ?_
    refine lv_iload_n hx hb dX8_wordOf_24 rfl (lv_at hl 4 rfl) ?_
    refine lv_if_eq (tgt := 33) hx hb dX8_wordOf_25 rfl (fun hc => ?_) (fun hc => ?_)
    · have hf := x_ip hc hf
      refine va_ldcS hx hb C.2.2.2.1 (xs_2 C) dX8_wordOf_33 ?_
      exact B_X8_wordOf_35  C   ls _ _ _ _ _ _ (by decide) (lv_sub hl [1, 2, 3, 4] rfl) hR hS hf
    · have hf := x_in hc hf
      refine va_ldcS hx hb C.2.2.2.1 (xs_1 C) dX8_wordOf_28 ?_
      refine lv_goto (tgt := 35) hx hb dX8_wordOf_30 rfl ?_
      exact B_X8_wordOf_35  C   ls _ _ _ _ _ _ (by decide) (lv_sub hl [1, 2, 3, 4] rfl) hR hS hf
  · have hf := x_in hc hf
    refine lv_sipush (v := 1040) hx hb dX8_wordOf_16 rfl ?_
    refine lv_iload hx hb dX8_wordOf_19 (lv_at hl 0 rfl) ?_
    refine lv_iadd hx hb dX8_wordOf_21 ?_
    cases hf
    exact x_iret C hR hS dX8_wordOf_22
def f_X8_thingOf_60 (x : Nat) (h : XH) : Nat → Int32 → Int32 → Int32 → Option Int32
  | 0, _, _, _ => none
  | n + 1, v2, v4, v5 => if v2 ≤ v5 then some v4 else if x_b v5 400 = true then x_let ((((v4 * 10) + (h.1 (x + 2) v5.toNatClampNeg)) - 48) : Int32) (fun t4 => f_X8_thingOf_60 x h n v2 t4 (v5 + 1)) else none
def f_X8_thingOf (x : Nat) (h : XH) (v1 : Int32) (v2 : Int32) (v3 : Int32) : Option Int32 := if x_b v1 400 = true then if (f_X8_isLetter h (h.1 (x + 2) v1.toNatClampNeg)) = 0 then if x_b v1 400 = true then if (f_X8_isDigit h (h.1 (x + 2) v1.toNatClampNeg)) = 0 then if x_b v1 400 = true then some (1100 + (h.1 (x + 2) v1.toNatClampNeg)) else none else if (v2 - v1) ≤ 3 then f_X8_thingOf_60 x h x_FU v2 0 v1 else some 1098 else none else Option.bind (f_X8_wordOf x h v1 v2 v3) (fun v_6 => some v_6) else none
set_option maxRecDepth 20000 in
theorem B_X8_thingOf_60 {p : Program} {l : Launch} {e : Env} {s : State} {m : MethodId} {args : Array Value} {below : List Frame} {meth : Method} {c : Code} {O : XO} {K : XK} {h : XH} {r : Int32}   (C : x_C p s m args meth c O cX8_thingOf 6 RX8 (some .int))   : ∀ (n : Nat) (ls : Array Slot) (H : Heap) (locs : List Loc) (v2 : Int32) (v4 : Int32) (v5 : Int32) (hl : lv_has ls 6 [(0, .ref (oX O + 1)), (2, .int v2), (4, .int v4), (5, .int v5)]) (hR : x_R O K h H) (hS : va_S (oA O) s.heap H locs) (hf : f_X8_thingOf_60 (oX O) h n v2 v4 v5 = some r), W p l e (x_rm 6 175) s m args below meth c H locs 0 0 (MQ below (x_Qc O K h (some (.int r))) args s 0 0 (oA O)) (F0 m 60 ls []) := by
  have hx := C.1
  have hb := C.2.1
  intro n
  induction n with
  | zero =>
    intro ls H locs v2 v4 v5 hl hR hS hf
    rw [f_X8_thingOf_60] at hf
    cases hf
  | succ n ih =>
    intro ls H locs v2 v4 v5 hl hR hS hf
    rw [f_X8_thingOf_60] at hf
    refine lv_iload hx hb dX8_thingOf_60 (lv_at hl 3 rfl) ?_
    refine lv_iload_n hx hb dX8_thingOf_62 rfl (lv_at hl 1 rfl) ?_
    refine lv_icmp_ge (tgt := 90) hx hb dX8_thingOf_63 rfl (fun hc => ?_) (fun hc => ?_)
    · have hf := x_ip hc hf
      refine lv_iload hx hb dX8_thingOf_90 (lv_at hl 2 rfl) ?_
      cases hf
      exact x_iret C hR hS dX8_thingOf_92
    · have hf := x_in hc hf
      refine lv_iload hx hb dX8_thingOf_66 (lv_at hl 2 rfl) ?_
      refine lv_bipush (v := 10) hx hb dX8_thingOf_68 rfl ?_
      refine lv_imul hx hb dX8_thingOf_70 ?_
      refine lv_aload_n hx hb dX8_thingOf_71 rfl (lv_at hl 0 rfl) ?_
      refine gf_8_0 C hR (x_k hR 1 rfl) tw_149 dX8_thingOf_72 ?_
      refine lv_iload hx hb dX8_thingOf_75 (lv_at hl 3 rfl) ?_
      obtain ⟨g3, hf⟩ := x_gd hf
      refine x_iald C hR (x_k1 (x_k hR 2 rfl)) (x_k2 (x_k hR 2 rfl) g3) dX8_thingOf_77 ?_
      refine lv_iadd hx hb dX8_thingOf_78 ?_
      refine lv_bipush (v := 48) hx hb dX8_thingOf_79 rfl ?_
      refine lv_isub hx hb dX8_thingOf_81 ?_
      obtain ⟨t4, et4, hf⟩ := x_lt hf
      refine x_nmi et4 ?_
      refine lv_istore (lv' := [(4, _), (0, _), (2, _), (5, _)]) hx hb dX8_thingOf_82 hl (Nat.le_of_ble_eq_true rfl) rfl (fun ls hl => ?_)
      refine lv_iinc (k := 3) (v := _ + 1) (lv' := [(5, _), (4, _), (0, _), (2, _)]) hx hb dX8_thingOf_84 hl rfl (x_inc 1 1 rfl _) (Nat.le_of_ble_eq_true rfl) rfl (fun ls hl => ?_)
      refine lv_goto (tgt := 60) hx hb dX8_thingOf_87 rfl ?_
      exact ih ls _ _ _ _ _  (lv_sub hl [2, 3, 1, 0] rfl) hR hS hf
set_option maxRecDepth 20000 in
theorem S_X8_thingOf {l : Launch} {O : XO} {K : XK} {h : XH} {v1 : Int32} {v2 : Int32} {v3 : Int32}  {r : Int32}  (hf : f_X8_thingOf (oX O) h v1 v2 v3 = some r) : x_M l O K yX8_thingOf cX8_thingOf 6 (some .int) 6 175 h [.ref (oX O + 1), .int v1, .int v2, .int v3] (some (.int r)) h := by
  refine x_enter (by decide) (Nat.le_of_ble_eq_true rfl) (fun p e s m args below meth c C hR ls hl => ?_)
  have hS : va_S (oA O) s.heap s.heap [] := va_S.rf
  have hx := C.1
  have hb := C.2.1
  have hl : lv_has ls 6 [(0, .ref (oX O + 1)), (1, .int v1), (2, .int v2), (3, .int v3)] := hl
  rw [f_X8_thingOf] at hf
  refine lv_aload_n hx hb dX8_thingOf_0 rfl (lv_at hl 0 rfl) ?_
  refine gf_8_0 C hR (x_k hR 1 rfl) tw_149 dX8_thingOf_1 ?_
  refine lv_iload_n hx hb dX8_thingOf_4 rfl (lv_at hl 1 rfl) ?_
  obtain ⟨g1, hf⟩ := x_gd hf
  refine x_iald C hR (x_k1 (x_k hR 2 rfl)) (x_k2 (x_k hR 2 rfl) g1) dX8_thingOf_5 ?_
  refine x_cSi1 C hR hS (S_X8_isLetter  rfl) mf_X8_isLetter tw_640 (Nat.le_of_ble_eq_true rfl) (Nat.le_of_ble_eq_true rfl) hl.1 (Nat.le_of_ble_eq_true rfl) dX8_thingOf_6 ⟨Nat.le_refl _, Nat.le_refl _⟩ (fun H locs hR hS => ?_)
  refine lv_if_eq (tgt := 20) hx hb dX8_thingOf_9 rfl (fun hc => ?_) (fun hc => ?_)
  · have hf := x_ip hc hf
    refine lv_aload_n hx hb dX8_thingOf_20 rfl (lv_at hl 0 rfl) ?_
    refine gf_8_0 C hR (x_k hR 1 rfl) tw_149 dX8_thingOf_21 ?_
    refine lv_iload_n hx hb dX8_thingOf_24 rfl (lv_at hl 1 rfl) ?_
    obtain ⟨g2, hf⟩ := x_gd hf
    refine x_iald C hR (x_k1 (x_k hR 2 rfl)) (x_k2 (x_k hR 2 rfl) g2) dX8_thingOf_25 ?_
    refine x_cSi1 C hR hS (S_X8_isDigit  rfl) mf_X8_isDigit tw_643 (Nat.le_of_ble_eq_true rfl) (Nat.le_of_ble_eq_true rfl) hl.1 (Nat.le_of_ble_eq_true rfl) dX8_thingOf_26 ⟨Nat.le_refl _, Nat.le_refl _⟩ (fun H locs hR hS => ?_)
    refine lv_if_ne (tgt := 43) hx hb dX8_thingOf_29 rfl (fun hc => ?_) (fun hc => ?_)
    · have hf := x_in hc hf
      refine lv_iload_n hx hb dX8_thingOf_43 rfl (lv_at hl 2 rfl) ?_
      refine lv_iload_n hx hb dX8_thingOf_44 rfl (lv_at hl 1 rfl) ?_
      refine lv_isub hx hb dX8_thingOf_45 ?_
      refine lv_iconst (v := 3) hx hb dX8_thingOf_46 rfl ?_
      refine lv_icmp_le (tgt := 54) hx hb dX8_thingOf_47 rfl (fun hc => ?_) (fun hc => ?_)
      · have hf := x_ip hc hf
        refine lv_iconst (v := 0) hx hb dX8_thingOf_54 rfl ?_
        refine lv_istore (lv' := [(4, _), (0, _), (1, _), (2, _), (3, _)]) hx hb dX8_thingOf_55 hl (Nat.le_of_ble_eq_true rfl) rfl (fun ls hl => ?_)
        refine lv_iload_n hx hb dX8_thingOf_57 rfl (lv_at hl 2 rfl) ?_
        refine lv_istore (lv' := [(5, _), (4, _), (0, _), (1, _), (2, _), (3, _)]) hx hb dX8_thingOf_58 hl (Nat.le_of_ble_eq_true rfl) rfl (fun ls hl => ?_)
        exact B_X8_thingOf_60  C  x_FU ls _ _ _ _ _  (lv_sub hl [2, 4, 1, 0] rfl) hR hS hf
      · have hf := x_in hc hf
        refine lv_sipush (v := 1098) hx hb dX8_thingOf_50 rfl ?_
        cases hf
        exact x_iret C hR hS dX8_thingOf_53
    · have hf := x_ip hc hf
      refine lv_sipush (v := 1100) hx hb dX8_thingOf_32 rfl ?_
      refine lv_aload_n hx hb dX8_thingOf_35 rfl (lv_at hl 0 rfl) ?_
      refine gf_8_0 C hR (x_k hR 1 rfl) tw_149 dX8_thingOf_36 ?_
      refine lv_iload_n hx hb dX8_thingOf_39 rfl (lv_at hl 1 rfl) ?_
      obtain ⟨g5, hf⟩ := x_gd hf
      refine x_iald C hR (x_k1 (x_k hR 2 rfl)) (x_k2 (x_k hR 2 rfl) g5) dX8_thingOf_40 ?_
      refine lv_iadd hx hb dX8_thingOf_41 ?_
      cases hf
      exact x_iret C hR hS dX8_thingOf_42
  · have hf := x_in hc hf
    refine lv_aload_n hx hb dX8_thingOf_12 rfl (lv_at hl 0 rfl) ?_
    refine lv_iload_n hx hb dX8_thingOf_13 rfl (lv_at hl 1 rfl) ?_
    refine lv_iload_n hx hb dX8_thingOf_14 rfl (lv_at hl 2 rfl) ?_
    refine lv_iload_n hx hb dX8_thingOf_15 rfl (lv_at hl 3 rfl) ?_
    obtain ⟨v_6, ev_6, hf⟩ := x_bd hf
    refine x_cVi3 C hR hS (S_X8_wordOf  ev_6) (x_k hR 1 rfl) (by decide) rfl mf_X8_wordOf tw_650 (Nat.le_of_ble_eq_true rfl) (Nat.le_of_ble_eq_true rfl) hl.1 (Nat.le_of_ble_eq_true rfl) dX8_thingOf_16 ⟨Nat.le_refl _, Nat.le_refl _⟩ (fun H locs hR hS => ?_)
    cases hf
    exact x_iret C hR hS dX8_thingOf_19
def f_X8_split_74 (x : Nat) (h : XH) (v2 : Int32) : Option (XH) := if x_b v2 401 = true then x_let (x_i h (x + 4) v2.toNatClampNeg (h.1 (x + 1) 1)) (fun h2 => if x_b v2 401 = true then x_let (x_i h2 (x + 3) v2.toNatClampNeg 1099) (fun h4 => some h4) else none) else none
def f_X8_split_65 (k7 : XH → Int32 → Int32 → Int32 → Int32 → Option (XH)) (x : Nat) (h : XH) (v1 : Int32) (v2 : Int32) (v4 : Int32) (v5 : Int32) : Option (XH) := k7 h v1 v2 v5 (v4 + 1)
def f_X8_split_7 (x : Nat) : Nat → XH → Int32 → Int32 → Int32 → Int32 → Option (XH)
  | 0, _, _, _, _, _ => none
  | n + 1, h, v1, v2, v3, v4 => if 400 ≤ v4 then f_X8_split_74 x h v2 else if (h.1 (x + 1) 1) ≤ v3 then f_X8_split_74 x h v2 else Option.bind (f_X8_endOfThing x h v3) (fun v_5 => if x_b v3 400 = true then if (h.1 (x + 2) v3.toNatClampNeg) = 32 then f_X8_split_65 (f_X8_split_7 x n) x h v1 v2 v4 v_5 else if x_b v2 401 = true then x_let (x_i h (x + 4) v2.toNatClampNeg v3) (fun h8 => Option.bind (f_X8_thingOf x h8 v3 v_5 v1) (fun v_9 => if x_b v2 401 = true then x_let (x_i h8 (x + 3) v2.toNatClampNeg v_9) (fun h11 => f_X8_split_65 (f_X8_split_7 x n) x h11 v1 (v2 + 1) v4 v_5) else none)) else none else none)
def f_X8_split (x : Nat) (h : XH) (v1 : Int32) : Option (XH) := f_X8_split_7 x x_FU h v1 0 0 0
set_option maxRecDepth 20000 in
theorem B_X8_split_74 {p : Program} {l : Launch} {e : Env} {s : State} {m : MethodId} {args : Array Value} {below : List Frame} {meth : Method} {c : Code} {O : XO} {K : XK} {h' : XH}   (C : x_C p s m args meth c O cX8_split 6 RX8 none)   (ls : Array Slot) (H : Heap) (locs : List Loc) (h : XH) (v2 : Int32) (hl : lv_has ls 6 [(0, .ref (oX O + 1)), (2, .int v2)]) (hR : x_R O K h H) (hS : va_S (oA O) s.heap H locs) (hf : f_X8_split_74 (oX O) h v2 = some h') : W p l e (x_rm 7 200) s m args below meth c H locs 0 0 (MQ below (x_Qc O K h' none) args s 0 0 (oA O)) (F0 m 74 ls []) := by
  have hx := C.1
  have hb := C.2.1
  rw [f_X8_split_74] at hf
  refine lv_aload_n hx hb dX8_split_74 rfl (lv_at hl 0 rfl) ?_
  refine gf_8_3 C hR (x_k hR 1 rfl) tw_153 dX8_split_75 ?_
  refine lv_iload_n hx hb dX8_split_78 rfl (lv_at hl 1 rfl) ?_
  refine lv_aload_n hx hb dX8_split_79 rfl (lv_at hl 0 rfl) ?_
  refine gf_8_1 C hR (x_k hR 1 rfl) tw_150 dX8_split_80 ?_
  obtain ⟨g1, hf⟩ := x_gd hf
  obtain ⟨h2, eh2, hf⟩ := x_lt hf
  refine x_iast C hR hS (x_k1 (x_k hR 4 rfl)) (x_k2 (x_k hR 4 rfl) g1) dX8_split_83 (fun H locs hR hS => ?_)
  rw [← eh2] at hR
  refine lv_aload_n hx hb dX8_split_84 rfl (lv_at hl 0 rfl) ?_
  refine gf_8_2 C hR (x_k hR 1 rfl) tw_152 dX8_split_85 ?_
  refine lv_iload_n hx hb dX8_split_88 rfl (lv_at hl 1 rfl) ?_
  refine lv_sipush (v := 1099) hx hb dX8_split_89 rfl ?_
  obtain ⟨g3, hf⟩ := x_gd hf
  obtain ⟨h4, eh4, hf⟩ := x_lt hf
  refine x_iast C hR hS (x_k1 (x_k hR 3 rfl)) (x_k2 (x_k hR 3 rfl) g3) dX8_split_92 (fun H locs hR hS => ?_)
  rw [← eh4] at hR
  cases hf
  exact x_vret C hR hS dX8_split_93
set_option maxRecDepth 20000 in
theorem B_X8_split_65 {p : Program} {l : Launch} {e : Env} {s : State} {m : MethodId} {args : Array Value} {below : List Frame} {meth : Method} {c : Code} {O : XO} {K : XK} {h' : XH}  {k7 : XH → Int32 → Int32 → Int32 → Int32 → Option (XH)} (C : x_C p s m args meth c O cX8_split 6 RX8 none) (hk7 : ∀ (ls : Array Slot) (H : Heap) (locs : List Loc) (h : XH) (v1 : Int32) (v2 : Int32) (v3 : Int32) (v4 : Int32), lv_has ls 6 [(0, .ref (oX O + 1)), (1, .int v1), (2, .int v2), (3, .int v3), (4, .int v4)] → x_R O K h H → va_S (oA O) s.heap H locs → k7 h v1 v2 v3 v4 = some h' → W p l e (x_rm 7 200) s m args below meth c H locs 0 0 (MQ below (x_Qc O K h' none) args s 0 0 (oA O)) (F0 m 7 ls []))  (ls : Array Slot) (H : Heap) (locs : List Loc) (h : XH) (v1 : Int32) (v2 : Int32) (v4 : Int32) (v5 : Int32) (hl : lv_has ls 6 [(0, .ref (oX O + 1)), (1, .int v1), (2, .int v2), (4, .int v4), (5, .int v5)]) (hR : x_R O K h H) (hS : va_S (oA O) s.heap H locs) (hf : f_X8_split_65 k7 (oX O) h v1 v2 v4 v5 = some h') : W p l e (x_rm 7 200) s m args below meth c H locs 0 0 (MQ below (x_Qc O K h' none) args s 0 0 (oA O)) (F0 m 65 ls []) := by
  have hx := C.1
  have hb := C.2.1
  rw [f_X8_split_65] at hf
  refine lv_iload hx hb dX8_split_65 (lv_at hl 4 rfl) ?_
  refine lv_istore_n (lv' := [(3, _), (0, _), (1, _), (2, _), (4, _), (5, _)]) hx hb dX8_split_67 rfl hl (Nat.le_of_ble_eq_true rfl) rfl (fun ls hl => ?_)
  refine lv_iinc (k := 4) (v := _ + 1) (lv' := [(4, _), (3, _), (0, _), (1, _), (2, _), (5, _)]) hx hb dX8_split_68 hl rfl (x_inc 1 1 rfl _) (Nat.le_of_ble_eq_true rfl) rfl (fun ls hl => ?_)
  refine lv_goto (tgt := 7) hx hb dX8_split_71 rfl ?_
  exact hk7 ls _ _ h _ _ _ _  (lv_sub hl [2, 3, 4, 1, 0] rfl) hR hS hf
set_option maxRecDepth 20000 in
theorem B_X8_split_7 {p : Program} {l : Launch} {e : Env} {s : State} {m : MethodId} {args : Array Value} {below : List Frame} {meth : Method} {c : Code} {O : XO} {K : XK} {h' : XH}   (C : x_C p s m args meth c O cX8_split 6 RX8 none)   : ∀ (n : Nat) (ls : Array Slot) (H : Heap) (locs : List Loc) (h : XH) (v1 : Int32) (v2 : Int32) (v3 : Int32) (v4 : Int32) (hl : lv_has ls 6 [(0, .ref (oX O + 1)), (1, .int v1), (2, .int v2), (3, .int v3), (4, .int v4)]) (hR : x_R O K h H) (hS : va_S (oA O) s.heap H locs) (hf : f_X8_split_7 (oX O) n h v1 v2 v3 v4 = some h'), W p l e (x_rm 7 200) s m args below meth c H locs 0 0 (MQ below (x_Qc O K h' none) args s 0 0 (oA O)) (F0 m 7 ls []) := by
  have hx := C.1
  have hb := C.2.1
  intro n
  induction n with
  | zero =>
    intro ls H locs h v1 v2 v3 v4 hl hR hS hf
    rw [f_X8_split_7] at hf
    cases hf
  | succ n ih =>
    intro ls H locs h v1 v2 v3 v4 hl hR hS hf
    rw [f_X8_split_7] at hf
    refine lv_iload hx hb dX8_split_7 (lv_at hl 4 rfl) ?_
    refine lv_sipush (v := 400) hx hb dX8_split_9 rfl ?_
    refine lv_icmp_ge (tgt := 74) hx hb dX8_split_12 rfl (fun hc => ?_) (fun hc => ?_)
    · have hf := x_ip hc hf
      exact B_X8_split_74  C   ls _ _ h _  (lv_sub hl [0, 2] rfl) hR hS hf
    · have hf := x_in hc hf
      refine lv_iload_n hx hb dX8_split_15 rfl (lv_at hl 3 rfl) ?_
      refine lv_aload_n hx hb dX8_split_16 rfl (lv_at hl 0 rfl) ?_
      refine gf_8_1 C hR (x_k hR 1 rfl) tw_150 dX8_split_17 ?_
      refine lv_icmp_ge (tgt := 74) hx hb dX8_split_20 rfl (fun hc => ?_) (fun hc => ?_)
      · have hf := x_ip hc hf
        exact B_X8_split_74  C   ls _ _ h _  (lv_sub hl [0, 2] rfl) hR hS hf
      · have hf := x_in hc hf
        refine lv_aload_n hx hb dX8_split_23 rfl (lv_at hl 0 rfl) ?_
        refine lv_iload_n hx hb dX8_split_24 rfl (lv_at hl 3 rfl) ?_
        obtain ⟨v_5, ev_5, hf⟩ := x_bd hf
        refine x_cVi1 C hR hS (S_X8_endOfThing  ev_5) (x_k hR 1 rfl) (by decide) rfl mf_X8_endOfThing tw_636 (Nat.le_of_ble_eq_true rfl) (Nat.le_of_ble_eq_true rfl) hl.1 (Nat.le_of_ble_eq_true rfl) dX8_split_25 ⟨Nat.le_refl _, Nat.le_refl _⟩ (fun H locs hR hS => ?_)
        refine lv_istore (lv' := [(5, _), (0, _), (1, _), (2, _), (3, _), (4, _)]) hx hb dX8_split_28 hl (Nat.le_of_ble_eq_true rfl) rfl (fun ls hl => ?_)
        refine lv_aload_n hx hb dX8_split_30 rfl (lv_at hl 1 rfl) ?_
        refine gf_8_0 C hR (x_k hR 1 rfl) tw_149 dX8_split_31 ?_
        refine lv_iload_n hx hb dX8_split_34 rfl (lv_at hl 4 rfl) ?_
        obtain ⟨g6, hf⟩ := x_gd hf
        refine x_iald C hR (x_k1 (x_k hR 2 rfl)) (x_k2 (x_k hR 2 rfl) g6) dX8_split_35 ?_
        refine lv_bipush (v := 32) hx hb dX8_split_36 rfl ?_
        refine lv_icmp_eq (tgt := 65) hx hb dX8_split_38 rfl (fun hc => ?_) (fun hc => ?_)
        · have hf := x_ip hc hf
          exact B_X8_split_65  C ih  ls _ _ h _ _ _ _  (lv_sub hl [1, 2, 3, 5, 0] rfl) hR hS hf
        · have hf := x_in hc hf
          refine lv_aload_n hx hb dX8_split_41 rfl (lv_at hl 1 rfl) ?_
          refine gf_8_3 C hR (x_k hR 1 rfl) tw_153 dX8_split_42 ?_
          refine lv_iload_n hx hb dX8_split_45 rfl (lv_at hl 3 rfl) ?_
          refine lv_iload_n hx hb dX8_split_46 rfl (lv_at hl 4 rfl) ?_
          obtain ⟨g7, hf⟩ := x_gd hf
          obtain ⟨h8, eh8, hf⟩ := x_lt hf
          refine x_iast C hR hS (x_k1 (x_k hR 4 rfl)) (x_k2 (x_k hR 4 rfl) g7) dX8_split_47 (fun H locs hR hS => ?_)
          rw [← eh8] at hR
          refine lv_aload_n hx hb dX8_split_48 rfl (lv_at hl 1 rfl) ?_
          refine gf_8_2 C hR (x_k hR 1 rfl) tw_152 dX8_split_49 ?_
          refine lv_iload_n hx hb dX8_split_52 rfl (lv_at hl 3 rfl) ?_
          refine lv_aload_n hx hb dX8_split_53 rfl (lv_at hl 1 rfl) ?_
          refine lv_iload_n hx hb dX8_split_54 rfl (lv_at hl 4 rfl) ?_
          refine lv_iload hx hb dX8_split_55 (lv_at hl 0 rfl) ?_
          refine lv_iload_n hx hb dX8_split_57 rfl (lv_at hl 2 rfl) ?_
          obtain ⟨v_9, ev_9, hf⟩ := x_bd hf
          refine x_cVi3 C hR hS (S_X8_thingOf  ev_9) (x_k hR 1 rfl) (by decide) rfl mf_X8_thingOf tw_646 (Nat.le_of_ble_eq_true rfl) (Nat.le_of_ble_eq_true rfl) hl.1 (Nat.le_of_ble_eq_true rfl) dX8_split_58 ⟨Nat.le_refl _, Nat.le_refl _⟩ (fun H locs hR hS => ?_)
          obtain ⟨g10, hf⟩ := x_gd hf
          obtain ⟨h11, eh11, hf⟩ := x_lt hf
          refine x_iast C hR hS (x_k1 (x_k hR 3 rfl)) (x_k2 (x_k hR 3 rfl) g10) dX8_split_61 (fun H locs hR hS => ?_)
          rw [← eh11] at hR
          refine lv_iinc (k := 3) (v := _ + 1) (lv' := [(2, _), (5, _), (0, _), (1, _), (3, _), (4, _)]) hx hb dX8_split_62 hl rfl (x_inc 1 1 rfl _) (Nat.le_of_ble_eq_true rfl) rfl (fun ls hl => ?_)
          exact B_X8_split_65  C ih  ls _ _ h11 _ _ _ _  (lv_sub hl [2, 3, 0, 5, 1] rfl) hR hS hf
set_option maxRecDepth 20000 in
theorem S_X8_split {l : Launch} {O : XO} {K : XK} {h : XH} {v1 : Int32}  {h' : XH}  (hf : f_X8_split (oX O) h v1 = some h') : x_M l O K yX8_split cX8_split 6 none 7 200 h [.ref (oX O + 1), .int v1] none h' := by
  refine x_enter (by decide) (Nat.le_of_ble_eq_true rfl) (fun p e s m args below meth c C hR ls hl => ?_)
  have hS : va_S (oA O) s.heap s.heap [] := va_S.rf
  have hx := C.1
  have hb := C.2.1
  have hl : lv_has ls 6 [(0, .ref (oX O + 1)), (1, .int v1)] := hl
  rw [f_X8_split] at hf
  refine lv_iconst (v := 0) hx hb dX8_split_0 rfl ?_
  refine lv_istore_n (lv' := [(2, _), (0, _), (1, _)]) hx hb dX8_split_1 rfl hl (Nat.le_of_ble_eq_true rfl) rfl (fun ls hl => ?_)
  refine lv_iconst (v := 0) hx hb dX8_split_2 rfl ?_
  refine lv_istore_n (lv' := [(3, _), (2, _), (0, _), (1, _)]) hx hb dX8_split_3 rfl hl (Nat.le_of_ble_eq_true rfl) rfl (fun ls hl => ?_)
  refine lv_iconst (v := 0) hx hb dX8_split_4 rfl ?_
  refine lv_istore (lv' := [(4, _), (3, _), (2, _), (0, _), (1, _)]) hx hb dX8_split_5 hl (Nat.le_of_ble_eq_true rfl) rfl (fun ls hl => ?_)
  exact B_X8_split_7  C  x_FU ls _ _ h _ _ _ _  (lv_sub hl [3, 4, 2, 1, 0] rfl) hR hS hf
def f_X3_settle_103 (k42 : XH → Int32 → Int32 → Int32 → Int32 → Option (XH)) (fr : XH → Int32 → Int32 → Int32 → Option (XH)) (x : Nat) (h : XH) (v1 : Int32) (v2 : Int32) (v3 : Int32) (v4 : Int32) : Option (XH) := k42 h v1 v2 v3 (v4 + 1)
def f_X3_settle_42 (fr : XH → Int32 → Int32 → Int32 → Option (XH)) (x : Nat) : Nat → XH → Int32 → Int32 → Int32 → Int32 → Option (XH)
  | 0, _, _, _, _, _ => none
  | n + 1, h, v1, v2, v3, v4 => if 6 ≤ v4 then some h else if x_b ((v1 * 6) + v4) 30 = true then x_let ((h.1 (x + 56) ((v1 * 6) + v4).toNatClampNeg) : Int32) (fun t2 => if t2 = (-1) then f_X3_settle_103 (f_X3_settle_42 fr x n) fr x h v1 v2 v3 v4 else if ((x_shr v2 v4) &&& 1) = 0 then if x_b v1 5 = true then x_let (x_i h (x + 57) v1.toNatClampNeg v4) (fun h4 => Option.bind (fr h4 (v1 + 1) (v2 ||| (x_shl 1 v4)) (v3 + t2)) (fun h5 => f_X3_settle_103 (f_X3_settle_42 fr x n) fr x h5 v1 v2 v3 v4)) else none else f_X3_settle_103 (f_X3_settle_42 fr x n) fr x h v1 v2 v3 v4) else none
def f_X3_settleB (fr : XH → Int32 → Int32 → Int32 → Option (XH)) (x : Nat) (h : XH) (v1 : Int32) (v2 : Int32) (v3 : Int32) : Option (XH) := if v1 < (h.1 (x + 54) 4) then f_X3_settle_42 fr x x_FU h v1 v2 v3 0 else if v3 ≤ (h.1 (x + 54) 5) then some h else x_let (x_i h (x + 54) 5 v3) (fun h6 => if x_cpok 0 0 (h6.1 (x + 54) 4) 5 5 = true then x_let (x_cp h6 (x + 57) (0 : Int32).toNatClampNeg (x + 58) (0 : Int32).toNatClampNeg (h6.1 (x + 54) 4).toNatClampNeg) (fun h8 => some h8) else none)
def f_X3_settle (x : Nat) : Nat → XH → Int32 → Int32 → Int32 → Option (XH)
  | 0, _, _, _, _ => none
  | d + 1, h, v1, v2, v3 => f_X3_settleB (f_X3_settle x d) x h v1 v2 v3
set_option maxRecDepth 20000 in
theorem B_X3_settle_103 {p : Program} {l : Launch} {e : Env} {s : State} {m : MethodId} {args : Array Value} {below : List Frame} {meth : Method} {c : Code} {O : XO} {K : XK} {fr : XH → Int32 → Int32 → Int32 → Option (XH)} {FR0 LR0 : Nat} {h' : XH}  {k42 : XH → Int32 → Int32 → Int32 → Int32 → Option (XH)} (C : x_C p s m args meth c O cX3_settle 6 RX3 none) (hk42 : ∀ (ls : Array Slot) (H : Heap) (locs : List Loc) (h : XH) (v1 : Int32) (v2 : Int32) (v3 : Int32) (v4 : Int32), lv_has ls 6 [(0, .ref (oX O + 54)), (1, .int v1), (2, .int v2), (3, .int v3), (4, .int v4)] → x_R O K h H → va_S (oA O) s.heap H locs → k42 h v1 v2 v3 v4 = some h' → W p l e (x_rm (FR0 + 1) (LR0 + 100)) s m args below meth c H locs 0 0 (MQ below (x_Qc O K h' none) args s 0 0 (oA O)) (F0 m 42 ls [])) (hrec : ∀ {h : XH} {v1 : Int32} {v2 : Int32} {v3 : Int32} {h' : XH}, fr h v1 v2 v3 = some h' → x_M l O K yX3_settle cX3_settle 6 none FR0 LR0 h [.ref (oX O + 54), .int v1, .int v2, .int v3] none h') (ls : Array Slot) (H : Heap) (locs : List Loc) (h : XH) (v1 : Int32) (v2 : Int32) (v3 : Int32) (v4 : Int32) (hl : lv_has ls 6 [(0, .ref (oX O + 54)), (1, .int v1), (2, .int v2), (3, .int v3), (4, .int v4)]) (hR : x_R O K h H) (hS : va_S (oA O) s.heap H locs) (hf : f_X3_settle_103 k42 fr (oX O) h v1 v2 v3 v4 = some h') : W p l e (x_rm (FR0 + 1) (LR0 + 100)) s m args below meth c H locs 0 0 (MQ below (x_Qc O K h' none) args s 0 0 (oA O)) (F0 m 103 ls []) := by
  have hx := C.1
  have hb := C.2.1
  rw [f_X3_settle_103] at hf
  refine lv_iinc (k := 4) (v := _ + 1) (lv' := [(4, _), (0, _), (1, _), (2, _), (3, _)]) hx hb dX3_settle_103 hl rfl (x_inc 1 1 rfl _) (Nat.le_of_ble_eq_true rfl) rfl (fun ls hl => ?_)
  refine lv_goto (tgt := 42) hx hb dX3_settle_106 rfl ?_
  exact hk42 ls _ _ h _ _ _ _  (lv_sub hl [1, 2, 3, 4, 0] rfl) hR hS hf
set_option maxRecDepth 20000 in
theorem B_X3_settle_42 {p : Program} {l : Launch} {e : Env} {s : State} {m : MethodId} {args : Array Value} {below : List Frame} {meth : Method} {c : Code} {O : XO} {K : XK} {fr : XH → Int32 → Int32 → Int32 → Option (XH)} {FR0 LR0 : Nat} {h' : XH}   (C : x_C p s m args meth c O cX3_settle 6 RX3 none)  (hrec : ∀ {h : XH} {v1 : Int32} {v2 : Int32} {v3 : Int32} {h' : XH}, fr h v1 v2 v3 = some h' → x_M l O K yX3_settle cX3_settle 6 none FR0 LR0 h [.ref (oX O + 54), .int v1, .int v2, .int v3] none h') : ∀ (n : Nat) (ls : Array Slot) (H : Heap) (locs : List Loc) (h : XH) (v1 : Int32) (v2 : Int32) (v3 : Int32) (v4 : Int32) (hl : lv_has ls 6 [(0, .ref (oX O + 54)), (1, .int v1), (2, .int v2), (3, .int v3), (4, .int v4)]) (hR : x_R O K h H) (hS : va_S (oA O) s.heap H locs) (hf : f_X3_settle_42 fr (oX O) n h v1 v2 v3 v4 = some h'), W p l e (x_rm (FR0 + 1) (LR0 + 100)) s m args below meth c H locs 0 0 (MQ below (x_Qc O K h' none) args s 0 0 (oA O)) (F0 m 42 ls []) := by
  have hx := C.1
  have hb := C.2.1
  intro n
  induction n with
  | zero =>
    intro ls H locs h v1 v2 v3 v4 hl hR hS hf
    rw [f_X3_settle_42] at hf
    cases hf
  | succ n ih =>
    intro ls H locs h v1 v2 v3 v4 hl hR hS hf
    rw [f_X3_settle_42] at hf
    refine lv_iload hx hb dX3_settle_42 (lv_at hl 4 rfl) ?_
    refine lv_bipush (v := 6) hx hb dX3_settle_44 rfl ?_
    refine lv_icmp_ge (tgt := 109) hx hb dX3_settle_46 rfl (fun hc => ?_) (fun hc => ?_)
    · have hf := x_ip hc hf
      cases hf
      exact x_vret C hR hS dX3_settle_109
    · have hf := x_in hc hf
      refine lv_aload_n hx hb dX3_settle_49 rfl (lv_at hl 0 rfl) ?_
      refine gf_3_1 C hR (x_k hR 54 rfl) tw_451 dX3_settle_50 ?_
      refine lv_iload_n hx hb dX3_settle_53 rfl (lv_at hl 1 rfl) ?_
      refine lv_bipush (v := 6) hx hb dX3_settle_54 rfl ?_
      refine lv_imul hx hb dX3_settle_56 ?_
      refine lv_iload hx hb dX3_settle_57 (lv_at hl 4 rfl) ?_
      refine lv_iadd hx hb dX3_settle_59 ?_
      obtain ⟨g1, hf⟩ := x_gd hf
      refine x_iald C hR (x_k1 (x_k hR 56 rfl)) (x_k2 (x_k hR 56 rfl) g1) dX3_settle_60 ?_
      obtain ⟨t2, et2, hf⟩ := x_lt hf
      refine x_nmi et2 ?_
      refine lv_istore (lv' := [(5, _), (0, _), (1, _), (2, _), (3, _), (4, _)]) hx hb dX3_settle_61 hl (Nat.le_of_ble_eq_true rfl) rfl (fun ls hl => ?_)
      refine lv_iload hx hb dX3_settle_63 (lv_at hl 0 rfl) ?_
      refine lv_iconst (v := (-1)) hx hb dX3_settle_65 rfl ?_
      refine lv_icmp_eq (tgt := 103) hx hb dX3_settle_66 rfl (fun hc => ?_) (fun hc => ?_)
      · have hf := x_ip hc hf
        exact B_X3_settle_103  C ih hrec  ls _ _ h _ _ _ _  (lv_sub hl [1, 2, 3, 4, 5] rfl) hR hS hf
      · have hf := x_in hc hf
        refine lv_iload_n hx hb dX3_settle_69 rfl (lv_at hl 3 rfl) ?_
        refine lv_iload hx hb dX3_settle_70 (lv_at hl 5 rfl) ?_
        refine lv_ishr hx hb dX3_settle_72 ?_
        refine lv_iconst (v := 1) hx hb dX3_settle_73 rfl ?_
        refine lv_iand hx hb dX3_settle_74 ?_
        refine lv_if_ne (tgt := 103) hx hb dX3_settle_75 rfl (fun hc => ?_) (fun hc => ?_)
        · have hf := x_in hc hf
          exact B_X3_settle_103  C ih hrec  ls _ _ h _ _ _ _  (lv_sub hl [1, 2, 3, 4, 5] rfl) hR hS hf
        · have hf := x_ip hc hf
          refine lv_aload_n hx hb dX3_settle_78 rfl (lv_at hl 1 rfl) ?_
          refine gf_3_2 C hR (x_k hR 54 rfl) tw_452 dX3_settle_79 ?_
          refine lv_iload_n hx hb dX3_settle_82 rfl (lv_at hl 2 rfl) ?_
          refine lv_iload hx hb dX3_settle_83 (lv_at hl 5 rfl) ?_
          obtain ⟨g3, hf⟩ := x_gd hf
          obtain ⟨h4, eh4, hf⟩ := x_lt hf
          refine x_iast C hR hS (x_k1 (x_k hR 57 rfl)) (x_k2 (x_k hR 57 rfl) g3) dX3_settle_85 (fun H locs hR hS => ?_)
          rw [← eh4] at hR
          refine lv_aload_n hx hb dX3_settle_86 rfl (lv_at hl 1 rfl) ?_
          refine lv_iload_n hx hb dX3_settle_87 rfl (lv_at hl 2 rfl) ?_
          refine lv_iconst (v := 1) hx hb dX3_settle_88 rfl ?_
          refine lv_iadd hx hb dX3_settle_89 ?_
          refine lv_iload_n hx hb dX3_settle_90 rfl (lv_at hl 3 rfl) ?_
          refine lv_iconst (v := 1) hx hb dX3_settle_91 rfl ?_
          refine lv_iload hx hb dX3_settle_92 (lv_at hl 5 rfl) ?_
          refine lv_ishl hx hb dX3_settle_94 ?_
          refine lv_ior hx hb dX3_settle_95 ?_
          refine lv_iload_n hx hb dX3_settle_96 rfl (lv_at hl 4 rfl) ?_
          refine lv_iload hx hb dX3_settle_97 (lv_at hl 0 rfl) ?_
          refine lv_iadd hx hb dX3_settle_99 ?_
          obtain ⟨h5, eh5, hf⟩ := x_bd hf
          refine x_cVv3 C hR hS (hrec  eh5) (x_k hR 54 rfl) (by decide) rfl mf_X3_settle tw_1437 (by show FR0 + 0 + 1 ≤ FR0 + 1; omega) (by show 8 + (6 + 11) + (LR0 + 0) ≤ LR0 + 100; omega) hl.1 (Nat.le_of_ble_eq_true rfl) dX3_settle_100 ⟨Nat.le_refl _, Nat.le_refl _⟩ (fun H locs hR hS => ?_)
          exact B_X3_settle_103  C ih hrec  ls _ _ h5 _ _ _ _  (lv_sub hl [1, 2, 3, 4, 5] rfl) hR hS hf
set_option maxRecDepth 20000 in
theorem S_X3_settleB {l : Launch} {O : XO} {K : XK} {fr : XH → Int32 → Int32 → Int32 → Option (XH)} {FR0 LR0 : Nat} (hrec : ∀ {h : XH} {v1 : Int32} {v2 : Int32} {v3 : Int32} {h' : XH}, fr h v1 v2 v3 = some h' → x_M l O K yX3_settle cX3_settle 6 none FR0 LR0 h [.ref (oX O + 54), .int v1, .int v2, .int v3] none h') {h : XH} {v1 : Int32} {v2 : Int32} {v3 : Int32}  {h' : XH}  (hf : f_X3_settleB fr (oX O) h v1 v2 v3 = some h') : x_M l O K yX3_settle cX3_settle 6 none (FR0 + 1) (LR0 + 100) h [.ref (oX O + 54), .int v1, .int v2, .int v3] none h' := by
  refine x_enter (by decide) (Nat.le_of_ble_eq_true rfl) (fun p e s m args below meth c C hR ls hl => ?_)
  have hS : va_S (oA O) s.heap s.heap [] := va_S.rf
  have hx := C.1
  have hb := C.2.1
  have hl : lv_has ls 6 [(0, .ref (oX O + 54)), (1, .int v1), (2, .int v2), (3, .int v3)] := hl
  rw [f_X3_settleB] at hf
  refine lv_iload_n hx hb dX3_settle_0 rfl (lv_at hl 1 rfl) ?_
  refine lv_aload_n hx hb dX3_settle_1 rfl (lv_at hl 0 rfl) ?_
  refine gf_3_4 C hR (x_k hR 54 rfl) tw_454 dX3_settle_2 ?_
  refine lv_icmp_lt (tgt := 39) hx hb dX3_settle_5 rfl (fun hc => ?_) (fun hc => ?_)
  · have hf := x_ip hc hf
    refine lv_iconst (v := 0) hx hb dX3_settle_39 rfl ?_
    refine lv_istore (lv' := [(4, _), (0, _), (1, _), (2, _), (3, _)]) hx hb dX3_settle_40 hl (Nat.le_of_ble_eq_true rfl) rfl (fun ls hl => ?_)
    exact B_X3_settle_42  C  hrec x_FU ls _ _ h _ _ _ _  (lv_sub hl [1, 2, 3, 4, 0] rfl) hR hS hf
  · have hf := x_in hc hf
    refine lv_iload_n hx hb dX3_settle_8 rfl (lv_at hl 3 rfl) ?_
    refine lv_aload_n hx hb dX3_settle_9 rfl (lv_at hl 0 rfl) ?_
    refine gf_3_5 C hR (x_k hR 54 rfl) tw_455 dX3_settle_10 ?_
    refine lv_icmp_le (tgt := 38) hx hb dX3_settle_13 rfl (fun hc => ?_) (fun hc => ?_)
    · have hf := x_ip hc hf
      cases hf
      exact x_vret C hR hS dX3_settle_38
    · have hf := x_in hc hf
      refine lv_aload_n hx hb dX3_settle_16 rfl (lv_at hl 0 rfl) ?_
      refine lv_iload_n hx hb dX3_settle_17 rfl (lv_at hl 3 rfl) ?_
      obtain ⟨h6, eh6, hf⟩ := x_lt hf
      refine pf_3_5 C hR hS (x_k hR 54 rfl) tw_455 dX3_settle_18 (fun H locs hR hS => ?_)
      rw [← eh6] at hR
      refine lv_aload_n hx hb dX3_settle_21 rfl (lv_at hl 0 rfl) ?_
      refine gf_3_2 C hR (x_k hR 54 rfl) tw_452 dX3_settle_22 ?_
      refine lv_iconst (v := 0) hx hb dX3_settle_25 rfl ?_
      refine lv_aload_n hx hb dX3_settle_26 rfl (lv_at hl 0 rfl) ?_
      refine gf_3_3 C hR (x_k hR 54 rfl) tw_453 dX3_settle_27 ?_
      refine lv_iconst (v := 0) hx hb dX3_settle_30 rfl ?_
      refine lv_aload_n hx hb dX3_settle_31 rfl (lv_at hl 0 rfl) ?_
      refine gf_3_4 C hR (x_k hR 54 rfl) tw_454 dX3_settle_32 ?_
      obtain ⟨g7, hf⟩ := x_gd hf
      obtain ⟨h8, eh8, hf⟩ := x_lt hf
      refine x_copy C hR hS (x_k1 (x_k hR 57 rfl)) (x_k1 (x_k hR 58 rfl)) (by rw [(x_k hR 57 rfl), (x_k hR 58 rfl)]; exact g7) tw_1441 tw_125 (by show 1 ≤ FR0 + 1; omega) (Nat.le_trans (Nat.le_of_ble_eq_true rfl : _ ≤ 100) (by show 100 ≤ LR0 + 100; omega)) hl.1 (Nat.le_of_ble_eq_true rfl) dX3_settle_35 (fun H locs hR hS => ?_)
      rw [← eh8] at hR
      cases hf
      exact x_vret C hR hS dX3_settle_38
theorem S_X3_settleR {l : Launch} {O : XO} {K : XK} : ∀ (d : Nat) {h : XH} {v1 : Int32} {v2 : Int32} {v3 : Int32} {h' : XH}, f_X3_settle (oX O) d h v1 v2 v3 = some h' → x_M l O K yX3_settle cX3_settle 6 none (1 * d) (100 * d) h [.ref (oX O + 54), .int v1, .int v2, .int v3] none h' := by
  intro d
  induction d with
  | zero =>
    intro h v1 v2 v3 h' hf
    rw [f_X3_settle] at hf
    cases hf
  | succ d ih =>
    intro h v1 v2 v3 h' hf
    rw [f_X3_settle] at hf
    exact S_X3_settleB (FR0 := 1 * d) (LR0 := 100 * d) ih hf
def f_X1_spread_10 (fr : XH → Int32 → Int32 → Int32 → Int32 → Int32 → Option (XH)) (x : Nat) (h : XH) (v5 : Int32) : Option (XH) := if x_b v5 6 = true then if x_b v5 6 = true then x_let (x_i h (x + 53) v5.toNatClampNeg ((h.1 (x + 53) v5.toNatClampNeg) + 1)) (fun h3 => some h3) else none else none
def f_X1_spread_76 (k25 : XH → Int32 → Int32 → Int32 → Int32 → Int32 → Int32 → Option (XH)) (fr : XH → Int32 → Int32 → Int32 → Int32 → Int32 → Option (XH)) (x : Nat) (h : XH) (v1 : Int32) (v2 : Int32) (v3 : Int32) (v4 : Int32) (v5 : Int32) (v6 : Int32) : Option (XH) := k25 h v1 v2 v3 v4 v5 (v6 + 1)
def f_X1_spread_25 (fr : XH → Int32 → Int32 → Int32 → Int32 → Int32 → Option (XH)) (x : Nat) : Nat → XH → Int32 → Int32 → Int32 → Int32 → Int32 → Int32 → Option (XH)
  | 0, _, _, _, _, _, _, _ => none
  | n + 1, h, v1, v2, v3, v4, v5, v6 => if v2 ≤ v6 then some h else if ((x_shr v4 v6) &&& 1) = 0 then if x_b v3 5 = true then Option.bind (fr h v1 v2 (v3 + 1) (v4 ||| (x_shl 1 v6)) (v5 + (if (h.1 (x + 52) v3.toNatClampNeg) = v6 then 1 else 0))) (fun h6 => f_X1_spread_76 (f_X1_spread_25 fr x n) fr x h6 v1 v2 v3 v4 v5 v6) else none else f_X1_spread_76 (f_X1_spread_25 fr x n) fr x h v1 v2 v3 v4 v5 v6
def f_X1_spreadB (fr : XH → Int32 → Int32 → Int32 → Int32 → Int32 → Option (XH)) (x : Nat) (h : XH) (v1 : Int32) (v2 : Int32) (v3 : Int32) (v4 : Int32) (v5 : Int32) : Option (XH) := if v1 ≤ v3 then f_X1_spread_10 fr x h v5 else if v3 < 5 then f_X1_spread_25 fr x x_FU h v1 v2 v3 v4 v5 0 else f_X1_spread_10 fr x h v5
def f_X1_spread (x : Nat) : Nat → XH → Int32 → Int32 → Int32 → Int32 → Int32 → Option (XH)
  | 0, _, _, _, _, _, _ => none
  | d + 1, h, v1, v2, v3, v4, v5 => f_X1_spreadB (f_X1_spread x d) x h v1 v2 v3 v4 v5
set_option maxRecDepth 20000 in
theorem B_X1_spread_10 {p : Program} {l : Launch} {e : Env} {s : State} {m : MethodId} {args : Array Value} {below : List Frame} {meth : Method} {c : Code} {O : XO} {K : XK} {fr : XH → Int32 → Int32 → Int32 → Int32 → Int32 → Option (XH)} {FR0 LR0 : Nat} {h' : XH}   (C : x_C p s m args meth c O cX1_spread 7 RX1 none)  (hrec : ∀ {h : XH} {v1 : Int32} {v2 : Int32} {v3 : Int32} {v4 : Int32} {v5 : Int32} {h' : XH}, fr h v1 v2 v3 v4 v5 = some h' → x_M l O K yX1_spread cX1_spread 7 none FR0 LR0 h [.ref (oX O + 51), .int v1, .int v2, .int v3, .int v4, .int v5] none h') (ls : Array Slot) (H : Heap) (locs : List Loc) (h : XH) (v5 : Int32) (hl : lv_has ls 7 [(0, .ref (oX O + 51)), (5, .int v5)]) (hR : x_R O K h H) (hS : va_S (oA O) s.heap H locs) (hf : f_X1_spread_10 fr (oX O) h v5 = some h') : W p l e (x_rm (FR0 + 1) (LR0 + 26)) s m args below meth c H locs 0 0 (MQ below (x_Qc O K h' none) args s 0 0 (oA O)) (F0 m 10 ls []) := by
  have hx := C.1
  have hb := C.2.1
  rw [f_X1_spread_10] at hf
  refine lv_aload_n hx hb dX1_spread_10 rfl (lv_at hl 0 rfl) ?_
  refine gf_1_2 C hR (x_k hR 51 rfl) tw_424 dX1_spread_11 ?_
  refine lv_iload hx hb dX1_spread_14 (lv_at hl 1 rfl) ?_
  refine lv_dup2_11 hx hb dX1_spread_16 rfl rfl ?_
  obtain ⟨g1, hf⟩ := x_gd hf
  refine x_iald C hR (x_k1 (x_k hR 53 rfl)) (x_k2 (x_k hR 53 rfl) g1) dX1_spread_17 ?_
  refine lv_iconst (v := 1) hx hb dX1_spread_18 rfl ?_
  refine lv_iadd hx hb dX1_spread_19 ?_
  obtain ⟨g2, hf⟩ := x_gd hf
  obtain ⟨h3, eh3, hf⟩ := x_lt hf
  refine x_iast C hR hS (x_k1 (x_k hR 53 rfl)) (x_k2 (x_k hR 53 rfl) g2) dX1_spread_20 (fun H locs hR hS => ?_)
  rw [← eh3] at hR
  cases hf
  exact x_vret C hR hS dX1_spread_21
set_option maxRecDepth 20000 in
theorem B_X1_spread_76 {p : Program} {l : Launch} {e : Env} {s : State} {m : MethodId} {args : Array Value} {below : List Frame} {meth : Method} {c : Code} {O : XO} {K : XK} {fr : XH → Int32 → Int32 → Int32 → Int32 → Int32 → Option (XH)} {FR0 LR0 : Nat} {h' : XH}  {k25 : XH → Int32 → Int32 → Int32 → Int32 → Int32 → Int32 → Option (XH)} (C : x_C p s m args meth c O cX1_spread 7 RX1 none) (hk25 : ∀ (ls : Array Slot) (H : Heap) (locs : List Loc) (h : XH) (v1 : Int32) (v2 : Int32) (v3 : Int32) (v4 : Int32) (v5 : Int32) (v6 : Int32), lv_has ls 7 [(0, .ref (oX O + 51)), (1, .int v1), (2, .int v2), (3, .int v3), (4, .int v4), (5, .int v5), (6, .int v6)] → x_R O K h H → va_S (oA O) s.heap H locs → k25 h v1 v2 v3 v4 v5 v6 = some h' → W p l e (x_rm (FR0 + 1) (LR0 + 26)) s m args below meth c H locs 0 0 (MQ below (x_Qc O K h' none) args s 0 0 (oA O)) (F0 m 25 ls [])) (hrec : ∀ {h : XH} {v1 : Int32} {v2 : Int32} {v3 : Int32} {v4 : Int32} {v5 : Int32} {h' : XH}, fr h v1 v2 v3 v4 v5 = some h' → x_M l O K yX1_spread cX1_spread 7 none FR0 LR0 h [.ref (oX O + 51), .int v1, .int v2, .int v3, .int v4, .int v5] none h') (ls : Array Slot) (H : Heap) (locs : List Loc) (h : XH) (v1 : Int32) (v2 : Int32) (v3 : Int32) (v4 : Int32) (v5 : Int32) (v6 : Int32) (hl : lv_has ls 7 [(0, .ref (oX O + 51)), (1, .int v1), (2, .int v2), (3, .int v3), (4, .int v4), (5, .int v5), (6, .int v6)]) (hR : x_R O K h H) (hS : va_S (oA O) s.heap H locs) (hf : f_X1_spread_76 k25 fr (oX O) h v1 v2 v3 v4 v5 v6 = some h') : W p l e (x_rm (FR0 + 1) (LR0 + 26)) s m args below meth c H locs 0 0 (MQ below (x_Qc O K h' none) args s 0 0 (oA O)) (F0 m 76 ls []) := by
  have hx := C.1
  have hb := C.2.1
  rw [f_X1_spread_76] at hf
  refine lv_iinc (k := 6) (v := _ + 1) (lv' := [(6, _), (0, _), (1, _), (2, _), (3, _), (4, _), (5, _)]) hx hb dX1_spread_76 hl rfl (x_inc 1 1 rfl _) (Nat.le_of_ble_eq_true rfl) rfl (fun ls hl => ?_)
  refine lv_goto (tgt := 25) hx hb dX1_spread_79 rfl ?_
  exact hk25 ls _ _ h _ _ _ _ _ _  (lv_sub hl [1, 2, 3, 4, 5, 6, 0] rfl) hR hS hf
set_option maxRecDepth 20000 in
theorem B_X1_spread_25 {p : Program} {l : Launch} {e : Env} {s : State} {m : MethodId} {args : Array Value} {below : List Frame} {meth : Method} {c : Code} {O : XO} {K : XK} {fr : XH → Int32 → Int32 → Int32 → Int32 → Int32 → Option (XH)} {FR0 LR0 : Nat} {h' : XH}   (C : x_C p s m args meth c O cX1_spread 7 RX1 none)  (hrec : ∀ {h : XH} {v1 : Int32} {v2 : Int32} {v3 : Int32} {v4 : Int32} {v5 : Int32} {h' : XH}, fr h v1 v2 v3 v4 v5 = some h' → x_M l O K yX1_spread cX1_spread 7 none FR0 LR0 h [.ref (oX O + 51), .int v1, .int v2, .int v3, .int v4, .int v5] none h') : ∀ (n : Nat) (ls : Array Slot) (H : Heap) (locs : List Loc) (h : XH) (v1 : Int32) (v2 : Int32) (v3 : Int32) (v4 : Int32) (v5 : Int32) (v6 : Int32) (hl : lv_has ls 7 [(0, .ref (oX O + 51)), (1, .int v1), (2, .int v2), (3, .int v3), (4, .int v4), (5, .int v5), (6, .int v6)]) (hR : x_R O K h H) (hS : va_S (oA O) s.heap H locs) (hf : f_X1_spread_25 fr (oX O) n h v1 v2 v3 v4 v5 v6 = some h'), W p l e (x_rm (FR0 + 1) (LR0 + 26)) s m args below meth c H locs 0 0 (MQ below (x_Qc O K h' none) args s 0 0 (oA O)) (F0 m 25 ls []) := by
  have hx := C.1
  have hb := C.2.1
  intro n
  induction n with
  | zero =>
    intro ls H locs h v1 v2 v3 v4 v5 v6 hl hR hS hf
    rw [f_X1_spread_25] at hf
    cases hf
  | succ n ih =>
    intro ls H locs h v1 v2 v3 v4 v5 v6 hl hR hS hf
    rw [f_X1_spread_25] at hf
    refine lv_iload hx hb dX1_spread_25 (lv_at hl 6 rfl) ?_
    refine lv_iload_n hx hb dX1_spread_27 rfl (lv_at hl 2 rfl) ?_
    refine lv_icmp_ge (tgt := 82) hx hb dX1_spread_28 rfl (fun hc => ?_) (fun hc => ?_)
    · have hf := x_ip hc hf
      cases hf
      exact x_vret C hR hS dX1_spread_82
    · have hf := x_in hc hf
      refine lv_iload hx hb dX1_spread_31 (lv_at hl 4 rfl) ?_
      refine lv_iload hx hb dX1_spread_33 (lv_at hl 6 rfl) ?_
      refine lv_ishr hx hb dX1_spread_35 ?_
      refine lv_iconst (v := 1) hx hb dX1_spread_36 rfl ?_
      refine lv_iand hx hb dX1_spread_37 ?_
      refine lv_if_ne (tgt := 76) hx hb dX1_spread_38 rfl (fun hc => ?_) (fun hc => ?_)
      · have hf := x_in hc hf
        exact B_X1_spread_76  C ih hrec  ls _ _ h _ _ _ _ _ _  (lv_sub hl [0, 1, 2, 3, 4, 5, 6] rfl) hR hS hf
      · have hf := x_ip hc hf
        refine lv_aload_n hx hb dX1_spread_41 rfl (lv_at hl 0 rfl) ?_
        refine lv_iload_n hx hb dX1_spread_42 rfl (lv_at hl 1 rfl) ?_
        refine lv_iload_n hx hb dX1_spread_43 rfl (lv_at hl 2 rfl) ?_
        refine lv_iload_n hx hb dX1_spread_44 rfl (lv_at hl 3 rfl) ?_
        refine lv_iconst (v := 1) hx hb dX1_spread_45 rfl ?_
        refine lv_iadd hx hb dX1_spread_46 ?_
        refine lv_iload hx hb dX1_spread_47 (lv_at hl 4 rfl) ?_
        refine lv_iconst (v := 1) hx hb dX1_spread_49 rfl ?_
        refine lv_iload hx hb dX1_spread_50 (lv_at hl 6 rfl) ?_
        refine lv_ishl hx hb dX1_spread_52 ?_
        refine lv_ior hx hb dX1_spread_53 ?_
        refine lv_iload hx hb dX1_spread_54 (lv_at hl 5 rfl) ?_
        refine lv_aload_n hx hb dX1_spread_56 rfl (lv_at hl 0 rfl) ?_
        refine gf_1_1 C hR (x_k hR 51 rfl) tw_423 dX1_spread_57 ?_
        refine lv_iload_n hx hb dX1_spread_60 rfl (lv_at hl 3 rfl) ?_
        obtain ⟨g4, hf⟩ := x_gd hf
        refine x_iald C hR (x_k1 (x_k hR 52 rfl)) (x_k2 (x_k hR 52 rfl) g4) dX1_spread_61 ?_
        refine lv_iload hx hb dX1_spread_62 (lv_at hl 6 rfl) ?_
        have kM5 : ∀ (ls : Array Slot) (H : Heap) (locs : List Loc), lv_has ls 7 [(0, .ref (oX O + 51)), (1, .int v1), (2, .int v2), (3, .int v3), (4, .int v4), (5, .int v5), (6, .int v6)] → x_R O K h H → va_S (oA O) s.heap H locs → W p l e (x_rm (FR0 + 1) (LR0 + 26)) s m args below meth c H locs 0 0 (MQ below (x_Qc O K h' none) args s 0 0 (oA O)) (F0 m 72 ls [.int (if (h.1 (oX O + 52) v3.toNatClampNeg) = v6 then 1 else 0), .int v5, .int (v4 ||| (x_shl 1 v6)), .int (v3 + 1), .int v2, .int v1, .ref (oX O + 51)]) := by
          intro ls H locs hl hR hS
          refine lv_iadd hx hb dX1_spread_72 ?_
          obtain ⟨h6, eh6, hf⟩ := x_bd hf
          refine x_cVv5 C hR hS (hrec  eh6) (x_k hR 51 rfl) (by decide) rfl mf_X1_spread tw_1331 (by show FR0 + 0 + 1 ≤ FR0 + 1; omega) (by show 8 + (7 + 11) + (LR0 + 0) ≤ LR0 + 26; omega) hl.1 (Nat.le_of_ble_eq_true rfl) dX1_spread_73 ⟨Nat.le_refl _, Nat.le_refl _⟩ (fun H locs hR hS => ?_)
          exact B_X1_spread_76  C ih hrec  ls _ _ h6 _ _ _ _ _ _  (lv_sub hl [0, 1, 2, 3, 4, 5, 6] rfl) hR hS hf
        refine lv_icmp_ne (tgt := 71) hx hb dX1_spread_64 rfl (fun hc => ?_) (fun hc => ?_)
        · try simp only [if_neg hc] at kM5
          refine lv_iconst (v := 0) hx hb dX1_spread_71 rfl ?_
          exact kM5 ls _ _ (lv_sub hl [0, 1, 2, 3, 4, 5, 6] rfl) hR hS
        · try simp only [if_pos hc] at kM5
          refine lv_iconst (v := 1) hx hb dX1_spread_67 rfl ?_
          refine lv_goto (tgt := 72) hx hb dX1_spread_68 rfl ?_
          exact kM5 ls _ _ (lv_sub hl [0, 1, 2, 3, 4, 5, 6] rfl) hR hS
set_option maxRecDepth 20000 in
theorem S_X1_spreadB {l : Launch} {O : XO} {K : XK} {fr : XH → Int32 → Int32 → Int32 → Int32 → Int32 → Option (XH)} {FR0 LR0 : Nat} (hrec : ∀ {h : XH} {v1 : Int32} {v2 : Int32} {v3 : Int32} {v4 : Int32} {v5 : Int32} {h' : XH}, fr h v1 v2 v3 v4 v5 = some h' → x_M l O K yX1_spread cX1_spread 7 none FR0 LR0 h [.ref (oX O + 51), .int v1, .int v2, .int v3, .int v4, .int v5] none h') {h : XH} {v1 : Int32} {v2 : Int32} {v3 : Int32} {v4 : Int32} {v5 : Int32}  {h' : XH}  (hf : f_X1_spreadB fr (oX O) h v1 v2 v3 v4 v5 = some h') : x_M l O K yX1_spread cX1_spread 7 none (FR0 + 1) (LR0 + 26) h [.ref (oX O + 51), .int v1, .int v2, .int v3, .int v4, .int v5] none h' := by
  refine x_enter (by decide) (Nat.le_of_ble_eq_true rfl) (fun p e s m args below meth c C hR ls hl => ?_)
  have hS : va_S (oA O) s.heap s.heap [] := va_S.rf
  have hx := C.1
  have hb := C.2.1
  have hl : lv_has ls 7 [(0, .ref (oX O + 51)), (1, .int v1), (2, .int v2), (3, .int v3), (4, .int v4), (5, .int v5)] := hl
  rw [f_X1_spreadB] at hf
  refine lv_iload_n hx hb dX1_spread_0 rfl (lv_at hl 3 rfl) ?_
  refine lv_iload_n hx hb dX1_spread_1 rfl (lv_at hl 1 rfl) ?_
  refine lv_icmp_ge (tgt := 10) hx hb dX1_spread_2 rfl (fun hc => ?_) (fun hc => ?_)
  · have hf := x_ip hc hf
    exact B_X1_spread_10  C  hrec  ls _ _ h _  (lv_sub hl [0, 5] rfl) hR hS hf
  · have hf := x_in hc hf
    refine lv_iload_n hx hb dX1_spread_5 rfl (lv_at hl 3 rfl) ?_
    refine lv_iconst (v := 5) hx hb dX1_spread_6 rfl ?_
    refine lv_icmp_lt (tgt := 22) hx hb dX1_spread_7 rfl (fun hc => ?_) (fun hc => ?_)
    · have hf := x_ip hc hf
      refine lv_iconst (v := 0) hx hb dX1_spread_22 rfl ?_
      refine lv_istore (lv' := [(6, _), (0, _), (1, _), (2, _), (3, _), (4, _), (5, _)]) hx hb dX1_spread_23 hl (Nat.le_of_ble_eq_true rfl) rfl (fun ls hl => ?_)
      exact B_X1_spread_25  C  hrec x_FU ls _ _ h _ _ _ _ _ _  (lv_sub hl [1, 2, 3, 4, 5, 6, 0] rfl) hR hS hf
    · have hf := x_in hc hf
      exact B_X1_spread_10  C  hrec  ls _ _ h _  (lv_sub hl [0, 5] rfl) hR hS hf
theorem S_X1_spreadR {l : Launch} {O : XO} {K : XK} : ∀ (d : Nat) {h : XH} {v1 : Int32} {v2 : Int32} {v3 : Int32} {v4 : Int32} {v5 : Int32} {h' : XH}, f_X1_spread (oX O) d h v1 v2 v3 v4 v5 = some h' → x_M l O K yX1_spread cX1_spread 7 none (1 * d) (26 * d) h [.ref (oX O + 51), .int v1, .int v2, .int v3, .int v4, .int v5] none h' := by
  intro d
  induction d with
  | zero =>
    intro h v1 v2 v3 v4 v5 h' hf
    rw [f_X1_spread] at hf
    cases hf
  | succ d ih =>
    intro h v1 v2 v3 v4 v5 h' hf
    rw [f_X1_spread] at hf
    exact S_X1_spreadB (FR0 := 1 * d) (LR0 := 26 * d) ih hf
def f_X8_readAll_52 (fr : XH → Int32 → Option (Int32 × XH)) (x : Nat) (h : XH) : Option (Int32 × XH) := some (1, h)
def f_X8_readAll_12 (fr : XH → Int32 → Option (Int32 × XH)) (x : Nat) : Nat → XH → Int32 → Int32 → Option (Int32 × XH)
  | 0, _, _, _ => none
  | n + 1, h, v1, v2 => if 400 ≤ v2 then f_X8_readAll_52 fr x h else Option.bind (f_X8_take x h 1043) (fun q2 => if q2.1 = 0 then f_X8_readAll_52 fr x q2.2 else Option.bind (fr q2.2 v1) (fun q3 => if q3.1 = 0 then some (0, q3.2) else Option.bind (f_X8_write x q3.2 1043) (fun h4 => f_X8_readAll_12 fr x n h4 v1 (v2 + 1))))
def f_X8_readAll (fr : XH → Int32 → Option (Int32 × XH)) (x : Nat) (h : XH) (v1 : Int32) : Option (Int32 × XH) := Option.bind (fr h v1) (fun q1 => if q1.1 = 0 then some (0, q1.2) else f_X8_readAll_12 fr x x_FU q1.2 v1 0)
set_option maxRecDepth 20000 in
theorem B_X8_readAll_52 {p : Program} {l : Launch} {e : Env} {s : State} {m : MethodId} {args : Array Value} {below : List Frame} {meth : Method} {c : Code} {O : XO} {K : XK} {fr : XH → Int32 → Option (Int32 × XH)} {FR0 LR0 : Nat} {r : Int32} {h' : XH}   (C : x_C p s m args meth c O cX8_readAll 3 RX8 (some .boolean))  (hrec : ∀ {h : XH} {v1 : Int32} {r : Int32} {h' : XH}, fr h v1 = some (r, h') → x_M l O K yX8_readAtom cX8_readAtom 4 (some .boolean) FR0 LR0 h [.ref (oX O + 1), .int v1] (some (.int r)) h') (ls : Array Slot) (H : Heap) (locs : List Loc) (h : XH) (hl : lv_has ls 3 []) (hR : x_R O K h H) (hS : va_S (oA O) s.heap H locs) (hf : f_X8_readAll_52 fr (oX O) h = some (r, h')) : W p l e (x_rm (FR0 + 1) (LR0 + 23)) s m args below meth c H locs 0 0 (MQ below (x_Qc O K h' (some (.int r))) args s 0 0 (oA O)) (F0 m 52 ls []) := by
  have hx := C.1
  have hb := C.2.1
  rw [f_X8_readAll_52] at hf
  refine lv_iconst (v := 1) hx hb dX8_readAll_52 rfl ?_
  cases hf
  exact x_zret C hR hS (Or.inr rfl) dX8_readAll_53
set_option maxRecDepth 20000 in
theorem B_X8_readAll_12 {p : Program} {l : Launch} {e : Env} {s : State} {m : MethodId} {args : Array Value} {below : List Frame} {meth : Method} {c : Code} {O : XO} {K : XK} {fr : XH → Int32 → Option (Int32 × XH)} {FR0 LR0 : Nat} {r : Int32} {h' : XH}   (C : x_C p s m args meth c O cX8_readAll 3 RX8 (some .boolean))  (hrec : ∀ {h : XH} {v1 : Int32} {r : Int32} {h' : XH}, fr h v1 = some (r, h') → x_M l O K yX8_readAtom cX8_readAtom 4 (some .boolean) FR0 LR0 h [.ref (oX O + 1), .int v1] (some (.int r)) h') : ∀ (n : Nat) (ls : Array Slot) (H : Heap) (locs : List Loc) (h : XH) (v1 : Int32) (v2 : Int32) (hl : lv_has ls 3 [(0, .ref (oX O + 1)), (1, .int v1), (2, .int v2)]) (hR : x_R O K h H) (hS : va_S (oA O) s.heap H locs) (hf : f_X8_readAll_12 fr (oX O) n h v1 v2 = some (r, h')), W p l e (x_rm (FR0 + 1) (LR0 + 23)) s m args below meth c H locs 0 0 (MQ below (x_Qc O K h' (some (.int r))) args s 0 0 (oA O)) (F0 m 12 ls []) := by
  have hx := C.1
  have hb := C.2.1
  intro n
  induction n with
  | zero =>
    intro ls H locs h v1 v2 hl hR hS hf
    rw [f_X8_readAll_12] at hf
    cases hf
  | succ n ih =>
    intro ls H locs h v1 v2 hl hR hS hf
    rw [f_X8_readAll_12] at hf
    refine lv_iload_n hx hb dX8_readAll_12 rfl (lv_at hl 2 rfl) ?_
    refine lv_sipush (v := 400) hx hb dX8_readAll_13 rfl ?_
    refine lv_icmp_ge (tgt := 52) hx hb dX8_readAll_16 rfl (fun hc => ?_) (fun hc => ?_)
    · have hf := x_ip hc hf
      exact B_X8_readAll_52  C  hrec  ls _ _ h  (lv_sub hl [] rfl) hR hS hf
    · have hf := x_in hc hf
      refine lv_aload_n hx hb dX8_readAll_19 rfl (lv_at hl 0 rfl) ?_
      refine lv_sipush (v := 1043) hx hb dX8_readAll_20 rfl ?_
      obtain ⟨q2, eq2, hf⟩ := x_bd hf
      refine x_cVi1 C hR hS (S_X8_take  eq2) (x_k hR 1 rfl) (by decide) rfl mf_X8_take tw_719 (by show 0 + 1 ≤ FR0 + 1; omega) (by show 8 + (2 + 11) + (0) ≤ LR0 + 23; omega) hl.1 (Nat.le_of_ble_eq_true rfl) dX8_readAll_23 ⟨Nat.le_refl _, Nat.le_refl _⟩ (fun H locs hR hS => ?_)
      refine lv_if_eq (tgt := 52) hx hb dX8_readAll_26 rfl (fun hc => ?_) (fun hc => ?_)
      · have hf := x_ip hc hf
        exact B_X8_readAll_52  C  hrec  ls _ _ q2.2  (lv_sub hl [] rfl) hR hS hf
      · have hf := x_in hc hf
        refine lv_aload_n hx hb dX8_readAll_29 rfl (lv_at hl 0 rfl) ?_
        refine lv_iload_n hx hb dX8_readAll_30 rfl (lv_at hl 1 rfl) ?_
        obtain ⟨q3, eq3, hf⟩ := x_bd hf
        refine x_cVi1 C hR hS (hrec  eq3) (x_k hR 1 rfl) (by decide) rfl mf_X8_readAtom tw_731 (by show FR0 + 0 + 1 ≤ FR0 + 1; omega) (by show 8 + (4 + 11) + (LR0 + 0) ≤ LR0 + 23; omega) hl.1 (Nat.le_of_ble_eq_true rfl) dX8_readAll_31 ⟨Nat.le_refl _, Nat.le_refl _⟩ (fun H locs hR hS => ?_)
        refine lv_if_ne (tgt := 39) hx hb dX8_readAll_34 rfl (fun hc => ?_) (fun hc => ?_)
        · have hf := x_in hc hf
          refine lv_aload_n hx hb dX8_readAll_39 rfl (lv_at hl 0 rfl) ?_
          refine lv_sipush (v := 1043) hx hb dX8_readAll_40 rfl ?_
          obtain ⟨h4, eh4, hf⟩ := x_bd hf
          refine x_cVv1 C hR hS (S_X8_write  eh4) (x_k hR 1 rfl) (by decide) rfl mf_X8_write tw_735 (by show 0 + 1 ≤ FR0 + 1; omega) (by show 8 + (2 + 11) + (0) ≤ LR0 + 23; omega) hl.1 (Nat.le_of_ble_eq_true rfl) dX8_readAll_43 ⟨Nat.le_refl _, Nat.le_refl _⟩ (fun H locs hR hS => ?_)
          refine lv_iinc (k := 2) (v := _ + 1) (lv' := [(2, _), (0, _), (1, _)]) hx hb dX8_readAll_46 hl rfl (x_inc 1 1 rfl _) (Nat.le_of_ble_eq_true rfl) rfl (fun ls hl => ?_)
          refine lv_goto (tgt := 12) hx hb dX8_readAll_49 rfl ?_
          exact ih ls _ _ h4 _ _  (lv_sub hl [1, 2, 0] rfl) hR hS hf
        · have hf := x_ip hc hf
          refine lv_iconst (v := 0) hx hb dX8_readAll_37 rfl ?_
          cases hf
          exact x_zret C hR hS (Or.inl rfl) dX8_readAll_38
set_option maxRecDepth 20000 in
theorem S_X8_readAll {l : Launch} {O : XO} {K : XK} {fr : XH → Int32 → Option (Int32 × XH)} {FR0 LR0 : Nat} (hrec : ∀ {h : XH} {v1 : Int32} {r : Int32} {h' : XH}, fr h v1 = some (r, h') → x_M l O K yX8_readAtom cX8_readAtom 4 (some .boolean) FR0 LR0 h [.ref (oX O + 1), .int v1] (some (.int r)) h') {h : XH} {v1 : Int32}  {r : Int32} {h' : XH}  (hf : f_X8_readAll fr (oX O) h v1 = some (r, h')) : x_M l O K yX8_readAll cX8_readAll 3 (some .boolean) (FR0 + 1) (LR0 + 23) h [.ref (oX O + 1), .int v1] (some (.int r)) h' := by
  refine x_enter (by decide) (Nat.le_of_ble_eq_true rfl) (fun p e s m args below meth c C hR ls hl => ?_)
  have hS : va_S (oA O) s.heap s.heap [] := va_S.rf
  have hx := C.1
  have hb := C.2.1
  have hl : lv_has ls 3 [(0, .ref (oX O + 1)), (1, .int v1)] := hl
  rw [f_X8_readAll] at hf
  refine lv_aload_n hx hb dX8_readAll_0 rfl (lv_at hl 0 rfl) ?_
  refine lv_iload_n hx hb dX8_readAll_1 rfl (lv_at hl 1 rfl) ?_
  obtain ⟨q1, eq1, hf⟩ := x_bd hf
  refine x_cVi1 C hR hS (hrec  eq1) (x_k hR 1 rfl) (by decide) rfl mf_X8_readAtom tw_731 (by show FR0 + 0 + 1 ≤ FR0 + 1; omega) (by show 8 + (4 + 11) + (LR0 + 0) ≤ LR0 + 23; omega) hl.1 (Nat.le_of_ble_eq_true rfl) dX8_readAll_2 ⟨Nat.le_refl _, Nat.le_refl _⟩ (fun H locs hR hS => ?_)
  refine lv_if_ne (tgt := 10) hx hb dX8_readAll_5 rfl (fun hc => ?_) (fun hc => ?_)
  · have hf := x_in hc hf
    refine lv_iconst (v := 0) hx hb dX8_readAll_10 rfl ?_
    refine lv_istore_n (lv' := [(2, _), (0, _), (1, _)]) hx hb dX8_readAll_11 rfl hl (Nat.le_of_ble_eq_true rfl) rfl (fun ls hl => ?_)
    exact B_X8_readAll_12  C  hrec x_FU ls _ _ q1.2 _ _  (lv_sub hl [1, 2, 0] rfl) hR hS hf
  · have hf := x_ip hc hf
    refine lv_iconst (v := 0) hx hb dX8_readAll_8 rfl ?_
    cases hf
    exact x_zret C hR hS (Or.inl rfl) dX8_readAll_9
def f_X8_readEither_52 (fr : XH → Int32 → Option (Int32 × XH)) (x : Nat) (h : XH) : Option (Int32 × XH) := some (1, h)
def f_X8_readEither_12 (fr : XH → Int32 → Option (Int32 × XH)) (x : Nat) : Nat → XH → Int32 → Int32 → Option (Int32 × XH)
  | 0, _, _, _ => none
  | n + 1, h, v1, v2 => if 400 ≤ v2 then f_X8_readEither_52 fr x h else Option.bind (f_X8_take x h 1044) (fun q2 => if q2.1 = 0 then f_X8_readEither_52 fr x q2.2 else Option.bind (f_X8_readAll fr x q2.2 v1) (fun q3 => if q3.1 = 0 then some (0, q3.2) else Option.bind (f_X8_write x q3.2 1044) (fun h4 => f_X8_readEither_12 fr x n h4 v1 (v2 + 1))))
def f_X8_readEither (fr : XH → Int32 → Option (Int32 × XH)) (x : Nat) (h : XH) (v1 : Int32) : Option (Int32 × XH) := Option.bind (f_X8_readAll fr x h v1) (fun q1 => if q1.1 = 0 then some (0, q1.2) else f_X8_readEither_12 fr x x_FU q1.2 v1 0)
set_option maxRecDepth 20000 in
theorem B_X8_readEither_52 {p : Program} {l : Launch} {e : Env} {s : State} {m : MethodId} {args : Array Value} {below : List Frame} {meth : Method} {c : Code} {O : XO} {K : XK} {fr : XH → Int32 → Option (Int32 × XH)} {FR0 LR0 : Nat} {r : Int32} {h' : XH}   (C : x_C p s m args meth c O cX8_readEither 3 RX8 (some .boolean))  (hrec : ∀ {h : XH} {v1 : Int32} {r : Int32} {h' : XH}, fr h v1 = some (r, h') → x_M l O K yX8_readAtom cX8_readAtom 4 (some .boolean) FR0 LR0 h [.ref (oX O + 1), .int v1] (some (.int r)) h') (ls : Array Slot) (H : Heap) (locs : List Loc) (h : XH) (hl : lv_has ls 3 []) (hR : x_R O K h H) (hS : va_S (oA O) s.heap H locs) (hf : f_X8_readEither_52 fr (oX O) h = some (r, h')) : W p l e (x_rm (FR0 + 2) (LR0 + 45)) s m args below meth c H locs 0 0 (MQ below (x_Qc O K h' (some (.int r))) args s 0 0 (oA O)) (F0 m 52 ls []) := by
  have hx := C.1
  have hb := C.2.1
  rw [f_X8_readEither_52] at hf
  refine lv_iconst (v := 1) hx hb dX8_readEither_52 rfl ?_
  cases hf
  exact x_zret C hR hS (Or.inr rfl) dX8_readEither_53
set_option maxRecDepth 20000 in
theorem B_X8_readEither_12 {p : Program} {l : Launch} {e : Env} {s : State} {m : MethodId} {args : Array Value} {below : List Frame} {meth : Method} {c : Code} {O : XO} {K : XK} {fr : XH → Int32 → Option (Int32 × XH)} {FR0 LR0 : Nat} {r : Int32} {h' : XH}   (C : x_C p s m args meth c O cX8_readEither 3 RX8 (some .boolean))  (hrec : ∀ {h : XH} {v1 : Int32} {r : Int32} {h' : XH}, fr h v1 = some (r, h') → x_M l O K yX8_readAtom cX8_readAtom 4 (some .boolean) FR0 LR0 h [.ref (oX O + 1), .int v1] (some (.int r)) h') : ∀ (n : Nat) (ls : Array Slot) (H : Heap) (locs : List Loc) (h : XH) (v1 : Int32) (v2 : Int32) (hl : lv_has ls 3 [(0, .ref (oX O + 1)), (1, .int v1), (2, .int v2)]) (hR : x_R O K h H) (hS : va_S (oA O) s.heap H locs) (hf : f_X8_readEither_12 fr (oX O) n h v1 v2 = some (r, h')), W p l e (x_rm (FR0 + 2) (LR0 + 45)) s m args below meth c H locs 0 0 (MQ below (x_Qc O K h' (some (.int r))) args s 0 0 (oA O)) (F0 m 12 ls []) := by
  have hx := C.1
  have hb := C.2.1
  intro n
  induction n with
  | zero =>
    intro ls H locs h v1 v2 hl hR hS hf
    rw [f_X8_readEither_12] at hf
    cases hf
  | succ n ih =>
    intro ls H locs h v1 v2 hl hR hS hf
    rw [f_X8_readEither_12] at hf
    refine lv_iload_n hx hb dX8_readEither_12 rfl (lv_at hl 2 rfl) ?_
    refine lv_sipush (v := 400) hx hb dX8_readEither_13 rfl ?_
    refine lv_icmp_ge (tgt := 52) hx hb dX8_readEither_16 rfl (fun hc => ?_) (fun hc => ?_)
    · have hf := x_ip hc hf
      exact B_X8_readEither_52  C  hrec  ls _ _ h  (lv_sub hl [] rfl) hR hS hf
    · have hf := x_in hc hf
      refine lv_aload_n hx hb dX8_readEither_19 rfl (lv_at hl 0 rfl) ?_
      refine lv_sipush (v := 1044) hx hb dX8_readEither_20 rfl ?_
      obtain ⟨q2, eq2, hf⟩ := x_bd hf
      refine x_cVi1 C hR hS (S_X8_take  eq2) (x_k hR 1 rfl) (by decide) rfl mf_X8_take tw_719 (by show 0 + 1 ≤ FR0 + 2; omega) (by show 8 + (2 + 11) + (0) ≤ LR0 + 45; omega) hl.1 (Nat.le_of_ble_eq_true rfl) dX8_readEither_23 ⟨Nat.le_refl _, Nat.le_refl _⟩ (fun H locs hR hS => ?_)
      refine lv_if_eq (tgt := 52) hx hb dX8_readEither_26 rfl (fun hc => ?_) (fun hc => ?_)
      · have hf := x_ip hc hf
        exact B_X8_readEither_52  C  hrec  ls _ _ q2.2  (lv_sub hl [] rfl) hR hS hf
      · have hf := x_in hc hf
        refine lv_aload_n hx hb dX8_readEither_29 rfl (lv_at hl 0 rfl) ?_
        refine lv_iload_n hx hb dX8_readEither_30 rfl (lv_at hl 1 rfl) ?_
        obtain ⟨q3, eq3, hf⟩ := x_bd hf
        refine x_cVi1 C hR hS (S_X8_readAll hrec  eq3) (x_k hR 1 rfl) (by decide) rfl mf_X8_readAll tw_727 (by show FR0 + 1 + 1 ≤ FR0 + 2; omega) (by show 8 + (3 + 11) + (LR0 + 23) ≤ LR0 + 45; omega) hl.1 (Nat.le_of_ble_eq_true rfl) dX8_readEither_31 ⟨Nat.le_refl _, Nat.le_refl _⟩ (fun H locs hR hS => ?_)
        refine lv_if_ne (tgt := 39) hx hb dX8_readEither_34 rfl (fun hc => ?_) (fun hc => ?_)
        · have hf := x_in hc hf
          refine lv_aload_n hx hb dX8_readEither_39 rfl (lv_at hl 0 rfl) ?_
          refine lv_sipush (v := 1044) hx hb dX8_readEither_40 rfl ?_
          obtain ⟨h4, eh4, hf⟩ := x_bd hf
          refine x_cVv1 C hR hS (S_X8_write  eh4) (x_k hR 1 rfl) (by decide) rfl mf_X8_write tw_735 (by show 0 + 1 ≤ FR0 + 2; omega) (by show 8 + (2 + 11) + (0) ≤ LR0 + 45; omega) hl.1 (Nat.le_of_ble_eq_true rfl) dX8_readEither_43 ⟨Nat.le_refl _, Nat.le_refl _⟩ (fun H locs hR hS => ?_)
          refine lv_iinc (k := 2) (v := _ + 1) (lv' := [(2, _), (0, _), (1, _)]) hx hb dX8_readEither_46 hl rfl (x_inc 1 1 rfl _) (Nat.le_of_ble_eq_true rfl) rfl (fun ls hl => ?_)
          refine lv_goto (tgt := 12) hx hb dX8_readEither_49 rfl ?_
          exact ih ls _ _ h4 _ _  (lv_sub hl [1, 2, 0] rfl) hR hS hf
        · have hf := x_ip hc hf
          refine lv_iconst (v := 0) hx hb dX8_readEither_37 rfl ?_
          cases hf
          exact x_zret C hR hS (Or.inl rfl) dX8_readEither_38
set_option maxRecDepth 20000 in
theorem S_X8_readEither {l : Launch} {O : XO} {K : XK} {fr : XH → Int32 → Option (Int32 × XH)} {FR0 LR0 : Nat} (hrec : ∀ {h : XH} {v1 : Int32} {r : Int32} {h' : XH}, fr h v1 = some (r, h') → x_M l O K yX8_readAtom cX8_readAtom 4 (some .boolean) FR0 LR0 h [.ref (oX O + 1), .int v1] (some (.int r)) h') {h : XH} {v1 : Int32}  {r : Int32} {h' : XH}  (hf : f_X8_readEither fr (oX O) h v1 = some (r, h')) : x_M l O K yX8_readEither cX8_readEither 3 (some .boolean) (FR0 + 2) (LR0 + 45) h [.ref (oX O + 1), .int v1] (some (.int r)) h' := by
  refine x_enter (by decide) (Nat.le_of_ble_eq_true rfl) (fun p e s m args below meth c C hR ls hl => ?_)
  have hS : va_S (oA O) s.heap s.heap [] := va_S.rf
  have hx := C.1
  have hb := C.2.1
  have hl : lv_has ls 3 [(0, .ref (oX O + 1)), (1, .int v1)] := hl
  rw [f_X8_readEither] at hf
  refine lv_aload_n hx hb dX8_readEither_0 rfl (lv_at hl 0 rfl) ?_
  refine lv_iload_n hx hb dX8_readEither_1 rfl (lv_at hl 1 rfl) ?_
  obtain ⟨q1, eq1, hf⟩ := x_bd hf
  refine x_cVi1 C hR hS (S_X8_readAll hrec  eq1) (x_k hR 1 rfl) (by decide) rfl mf_X8_readAll tw_727 (by show FR0 + 1 + 1 ≤ FR0 + 2; omega) (by show 8 + (3 + 11) + (LR0 + 23) ≤ LR0 + 45; omega) hl.1 (Nat.le_of_ble_eq_true rfl) dX8_readEither_2 ⟨Nat.le_refl _, Nat.le_refl _⟩ (fun H locs hR hS => ?_)
  refine lv_if_ne (tgt := 10) hx hb dX8_readEither_5 rfl (fun hc => ?_) (fun hc => ?_)
  · have hf := x_in hc hf
    refine lv_iconst (v := 0) hx hb dX8_readEither_10 rfl ?_
    refine lv_istore_n (lv' := [(2, _), (0, _), (1, _)]) hx hb dX8_readEither_11 rfl hl (Nat.le_of_ble_eq_true rfl) rfl (fun ls hl => ?_)
    exact B_X8_readEither_12  C  hrec x_FU ls _ _ q1.2 _ _  (lv_sub hl [1, 2, 0] rfl) hR hS hf
  · have hf := x_ip hc hf
    refine lv_iconst (v := 0) hx hb dX8_readEither_8 rfl ?_
    cases hf
    exact x_zret C hR hS (Or.inl rfl) dX8_readEither_9
def f_X8_readAtom_33 (fr : XH → Int32 → Option (Int32 × XH)) (x : Nat) (h : XH) : Option (Int32 × XH) := some (0, h)
def f_X8_readAtom_83 (fr : XH → Int32 → Option (Int32 × XH)) (x : Nat) (h : XH) : Option (Int32 × XH) := some (0, h)
def f_X8_readAtom_19 (fr : XH → Int32 → Option (Int32 × XH)) (x : Nat) (h : XH) (v1 : Int32) (v2 : Int32) : Option (Int32 × XH) := if 6 ≤ v1 then f_X8_readAtom_33 fr x h else Option.bind (f_X8_take x h v2) (fun q2 => if q2.1 = 0 then f_X8_readAtom_33 fr x q2.2 else if v2 = 1045 then Option.bind (fr q2.2 (v1 + 1)) (fun q6 => Option.bind (f_X8_write x q6.2 1045) (fun h7 => if x_isb q6.1 = true then some (q6.1, h7) else none)) else Option.bind (f_X8_readEither fr x q2.2 (v1 + 1)) (fun q3 => if q3.1 = 0 then f_X8_readAtom_83 fr x q3.2 else Option.bind (f_X8_take x q3.2 1141) (fun q4 => some ((if q4.1 = 0 then 0 else 1), q4.2))))
def f_X8_readAtom_161 (fr : XH → Int32 → Option (Int32 × XH)) (x : Nat) (h : XH) : Option (Int32 × XH) := some (0, h)
def f_X8_readAtom_146 (fr : XH → Int32 → Option (Int32 × XH)) (x : Nat) (h : XH) (v3 : Int32) : Option (Int32 × XH) := Option.bind (f_X8_take x h v3) (fun q11 => if q11.1 = 0 then f_X8_readAtom_161 fr x q11.2 else Option.bind (f_X8_readSum x q11.2) (fun q12 => if q12.1 = 0 then f_X8_readAtom_161 fr x q12.2 else Option.bind (f_X8_write x q12.2 v3) (fun h13 => some (1, h13))))
def f_X8_readAtom_118 (fr : XH → Int32 → Option (Int32 × XH)) (x : Nat) (h : XH) : Option (Int32 × XH) := Option.bind (f_X8_readSum x h) (fun q9 => if q9.1 = 0 then some (0, q9.2) else Option.bind (f_X8_here x q9.2) (fun v_10 => if v_10 = 1160 then f_X8_readAtom_146 fr x q9.2 v_10 else if v_10 = 1162 then f_X8_readAtom_146 fr x q9.2 v_10 else f_X8_readAtom_161 fr x q9.2))
def f_X8_readAtomB (fr : XH → Int32 → Option (Int32 × XH)) (x : Nat) (h : XH) (v1 : Int32) : Option (Int32 × XH) := Option.bind (f_X8_here x h) (fun v_1 => if v_1 = 1045 then f_X8_readAtom_19 fr x h v1 v_1 else if v_1 = 1140 then f_X8_readAtom_19 fr x h v1 v_1 else if v_1 < 1020 then f_X8_readAtom_118 fr x h else if 1040 ≤ v_1 then f_X8_readAtom_118 fr x h else Option.bind (f_X8_write x h ((v_1 - 1020) + 1000)) (fun h14 => Option.bind (f_X8_take x h14 v_1) (fun q15 => if x_isb q15.1 = true then some (q15.1, q15.2) else none)))
def f_X8_readAtom (x : Nat) : Nat → XH → Int32 → Option (Int32 × XH)
  | 0, _, _ => none
  | d + 1, h, v1 => f_X8_readAtomB (f_X8_readAtom x d) x h v1
set_option maxRecDepth 20000 in
theorem B_X8_readAtom_33 {p : Program} {l : Launch} {e : Env} {s : State} {m : MethodId} {args : Array Value} {below : List Frame} {meth : Method} {c : Code} {O : XO} {K : XK} {fr : XH → Int32 → Option (Int32 × XH)} {FR0 LR0 : Nat} {r : Int32} {h' : XH}   (C : x_C p s m args meth c O cX8_readAtom 4 RX8 (some .boolean))  (hrec : ∀ {h : XH} {v1 : Int32} {r : Int32} {h' : XH}, fr h v1 = some (r, h') → x_M l O K yX8_readAtom cX8_readAtom 4 (some .boolean) FR0 LR0 h [.ref (oX O + 1), .int v1] (some (.int r)) h') (ls : Array Slot) (H : Heap) (locs : List Loc) (h : XH) (hl : lv_has ls 4 []) (hR : x_R O K h H) (hS : va_S (oA O) s.heap H locs) (hf : f_X8_readAtom_33 fr (oX O) h = some (r, h')) : W p l e (x_rm (FR0 + 3) (LR0 + 67)) s m args below meth c H locs 0 0 (MQ below (x_Qc O K h' (some (.int r))) args s 0 0 (oA O)) (F0 m 33 ls []) := by
  have hx := C.1
  have hb := C.2.1
  rw [f_X8_readAtom_33] at hf
  refine lv_iconst (v := 0) hx hb dX8_readAtom_33 rfl ?_
  cases hf
  exact x_zret C hR hS (Or.inl rfl) dX8_readAtom_34
set_option maxRecDepth 20000 in
theorem B_X8_readAtom_83 {p : Program} {l : Launch} {e : Env} {s : State} {m : MethodId} {args : Array Value} {below : List Frame} {meth : Method} {c : Code} {O : XO} {K : XK} {fr : XH → Int32 → Option (Int32 × XH)} {FR0 LR0 : Nat} {r : Int32} {h' : XH}   (C : x_C p s m args meth c O cX8_readAtom 4 RX8 (some .boolean))  (hrec : ∀ {h : XH} {v1 : Int32} {r : Int32} {h' : XH}, fr h v1 = some (r, h') → x_M l O K yX8_readAtom cX8_readAtom 4 (some .boolean) FR0 LR0 h [.ref (oX O + 1), .int v1] (some (.int r)) h') (ls : Array Slot) (H : Heap) (locs : List Loc) (h : XH) (hl : lv_has ls 4 []) (hR : x_R O K h H) (hS : va_S (oA O) s.heap H locs) (hf : f_X8_readAtom_83 fr (oX O) h = some (r, h')) : W p l e (x_rm (FR0 + 3) (LR0 + 67)) s m args below meth c H locs 0 0 (MQ below (x_Qc O K h' (some (.int r))) args s 0 0 (oA O)) (F0 m 83 ls []) := by
  have hx := C.1
  have hb := C.2.1
  rw [f_X8_readAtom_83] at hf
  refine lv_iconst (v := 0) hx hb dX8_readAtom_83 rfl ?_
  cases hf
  exact x_zret C hR hS (Or.inl rfl) dX8_readAtom_84
set_option maxRecDepth 20000 in
theorem B_X8_readAtom_19 {p : Program} {l : Launch} {e : Env} {s : State} {m : MethodId} {args : Array Value} {below : List Frame} {meth : Method} {c : Code} {O : XO} {K : XK} {fr : XH → Int32 → Option (Int32 × XH)} {FR0 LR0 : Nat} {r : Int32} {h' : XH}   (C : x_C p s m args meth c O cX8_readAtom 4 RX8 (some .boolean))  (hrec : ∀ {h : XH} {v1 : Int32} {r : Int32} {h' : XH}, fr h v1 = some (r, h') → x_M l O K yX8_readAtom cX8_readAtom 4 (some .boolean) FR0 LR0 h [.ref (oX O + 1), .int v1] (some (.int r)) h') (ls : Array Slot) (H : Heap) (locs : List Loc) (h : XH) (v1 : Int32) (v2 : Int32) (hl : lv_has ls 4 [(0, .ref (oX O + 1)), (1, .int v1), (2, .int v2)]) (hR : x_R O K h H) (hS : va_S (oA O) s.heap H locs) (hf : f_X8_readAtom_19 fr (oX O) h v1 v2 = some (r, h')) : W p l e (x_rm (FR0 + 3) (LR0 + 67)) s m args below meth c H locs 0 0 (MQ below (x_Qc O K h' (some (.int r))) args s 0 0 (oA O)) (F0 m 19 ls []) := by
  have hx := C.1
  have hb := C.2.1
  rw [f_X8_readAtom_19] at hf
  refine lv_iload_n hx hb dX8_readAtom_19 rfl (lv_at hl 1 rfl) ?_
  refine lv_bipush (v := 6) hx hb dX8_readAtom_20 rfl ?_
  refine lv_icmp_ge (tgt := 33) hx hb dX8_readAtom_22 rfl (fun hc => ?_) (fun hc => ?_)
  · have hf := x_ip hc hf
    exact B_X8_readAtom_33  C  hrec  ls _ _ h  (lv_sub hl [] rfl) hR hS hf
  · have hf := x_in hc hf
    refine lv_aload_n hx hb dX8_readAtom_25 rfl (lv_at hl 0 rfl) ?_
    refine lv_iload_n hx hb dX8_readAtom_26 rfl (lv_at hl 2 rfl) ?_
    obtain ⟨q2, eq2, hf⟩ := x_bd hf
    refine x_cVi1 C hR hS (S_X8_take  eq2) (x_k hR 1 rfl) (by decide) rfl mf_X8_take tw_719 (by show 0 + 1 ≤ FR0 + 3; omega) (by show 8 + (2 + 11) + (0) ≤ LR0 + 67; omega) hl.1 (Nat.le_of_ble_eq_true rfl) dX8_readAtom_27 ⟨Nat.le_refl _, Nat.le_refl _⟩ (fun H locs hR hS => ?_)
    refine lv_if_ne (tgt := 35) hx hb dX8_readAtom_30 rfl (fun hc => ?_) (fun hc => ?_)
    · have hf := x_in hc hf
      refine lv_iload_n hx hb dX8_readAtom_35 rfl (lv_at hl 2 rfl) ?_
      refine lv_sipush (v := 1045) hx hb dX8_readAtom_36 rfl ?_
      refine lv_icmp_ne (tgt := 59) hx hb dX8_readAtom_39 rfl (fun hc => ?_) (fun hc => ?_)
      · have hf := x_in hc hf
        refine lv_aload_n hx hb dX8_readAtom_59 rfl (lv_at hl 0 rfl) ?_
        refine lv_iload_n hx hb dX8_readAtom_60 rfl (lv_at hl 1 rfl) ?_
        refine lv_iconst (v := 1) hx hb dX8_readAtom_61 rfl ?_
        refine lv_iadd hx hb dX8_readAtom_62 ?_
        obtain ⟨q3, eq3, hf⟩ := x_bd hf
        refine x_cVi1 C hR hS (S_X8_readEither hrec  eq3) (x_k hR 1 rfl) (by decide) rfl mf_X8_readEither tw_723 (by show FR0 + 2 + 1 ≤ FR0 + 3; omega) (by show 8 + (3 + 11) + (LR0 + 45) ≤ LR0 + 67; omega) hl.1 (Nat.le_of_ble_eq_true rfl) dX8_readAtom_63 ⟨Nat.le_refl _, Nat.le_refl _⟩ (fun H locs hR hS => ?_)
        refine lv_if_eq (tgt := 83) hx hb dX8_readAtom_66 rfl (fun hc => ?_) (fun hc => ?_)
        · have hf := x_ip hc hf
          exact B_X8_readAtom_83  C  hrec  ls _ _ q3.2  (lv_sub hl [] rfl) hR hS hf
        · have hf := x_in hc hf
          refine lv_aload_n hx hb dX8_readAtom_69 rfl (lv_at hl 0 rfl) ?_
          refine lv_sipush (v := 1141) hx hb dX8_readAtom_70 rfl ?_
          obtain ⟨q4, eq4, hf⟩ := x_bd hf
          refine x_cVi1 C hR hS (S_X8_take  eq4) (x_k hR 1 rfl) (by decide) rfl mf_X8_take tw_719 (by show 0 + 1 ≤ FR0 + 3; omega) (by show 8 + (2 + 11) + (0) ≤ LR0 + 67; omega) hl.1 (Nat.le_of_ble_eq_true rfl) dX8_readAtom_73 ⟨Nat.le_refl _, Nat.le_refl _⟩ (fun H locs hR hS => ?_)
          have kM5 : ∀ (ls : Array Slot) (H : Heap) (locs : List Loc), lv_has ls 4 [] → x_R O K q4.2 H → va_S (oA O) s.heap H locs → W p l e (x_rm (FR0 + 3) (LR0 + 67)) s m args below meth c H locs 0 0 (MQ below (x_Qc O K h' (some (.int r))) args s 0 0 (oA O)) (F0 m 84 ls [.int (if q4.1 = 0 then 0 else 1)]) := by
            intro ls H locs hl hR hS
            cases hf
            exact x_zret C hR hS (by (repeat' split) <;> first | exact Or.inl rfl | exact Or.inr rfl) dX8_readAtom_84
          refine lv_if_eq (tgt := 83) hx hb dX8_readAtom_76 rfl (fun hc => ?_) (fun hc => ?_)
          · try simp only [if_pos hc] at kM5
            refine lv_iconst (v := 0) hx hb dX8_readAtom_83 rfl ?_
            exact kM5 ls _ _ (lv_sub hl [] rfl) hR hS
          · try simp only [if_neg hc] at kM5
            refine lv_iconst (v := 1) hx hb dX8_readAtom_79 rfl ?_
            refine lv_goto (tgt := 84) hx hb dX8_readAtom_80 rfl ?_
            exact kM5 ls _ _ (lv_sub hl [] rfl) hR hS
      · have hf := x_ip hc hf
        refine lv_aload_n hx hb dX8_readAtom_42 rfl (lv_at hl 0 rfl) ?_
        refine lv_iload_n hx hb dX8_readAtom_43 rfl (lv_at hl 1 rfl) ?_
        refine lv_iconst (v := 1) hx hb dX8_readAtom_44 rfl ?_
        refine lv_iadd hx hb dX8_readAtom_45 ?_
        obtain ⟨q6, eq6, hf⟩ := x_bd hf
        refine x_cVi1 C hR hS (hrec  eq6) (x_k hR 1 rfl) (by decide) rfl mf_X8_readAtom tw_731 (by show FR0 + 0 + 1 ≤ FR0 + 3; omega) (by show 8 + (4 + 11) + (LR0 + 0) ≤ LR0 + 67; omega) hl.1 (Nat.le_of_ble_eq_true rfl) dX8_readAtom_46 ⟨Nat.le_refl _, Nat.le_refl _⟩ (fun H locs hR hS => ?_)
        refine lv_istore_n (lv' := [(3, _), (0, _), (1, _), (2, _)]) hx hb dX8_readAtom_49 rfl hl (Nat.le_of_ble_eq_true rfl) rfl (fun ls hl => ?_)
        refine lv_aload_n hx hb dX8_readAtom_50 rfl (lv_at hl 1 rfl) ?_
        refine lv_sipush (v := 1045) hx hb dX8_readAtom_51 rfl ?_
        obtain ⟨h7, eh7, hf⟩ := x_bd hf
        refine x_cVv1 C hR hS (S_X8_write  eh7) (x_k hR 1 rfl) (by decide) rfl mf_X8_write tw_735 (by show 0 + 1 ≤ FR0 + 3; omega) (by show 8 + (2 + 11) + (0) ≤ LR0 + 67; omega) hl.1 (Nat.le_of_ble_eq_true rfl) dX8_readAtom_54 ⟨Nat.le_refl _, Nat.le_refl _⟩ (fun H locs hR hS => ?_)
        refine lv_iload_n hx hb dX8_readAtom_57 rfl (lv_at hl 0 rfl) ?_
        obtain ⟨g8, hf⟩ := x_gd hf
        cases hf
        exact x_zret C hR hS (x_isb_of g8) dX8_readAtom_58
    · have hf := x_ip hc hf
      exact B_X8_readAtom_33  C  hrec  ls _ _ q2.2  (lv_sub hl [] rfl) hR hS hf
set_option maxRecDepth 20000 in
theorem B_X8_readAtom_161 {p : Program} {l : Launch} {e : Env} {s : State} {m : MethodId} {args : Array Value} {below : List Frame} {meth : Method} {c : Code} {O : XO} {K : XK} {fr : XH → Int32 → Option (Int32 × XH)} {FR0 LR0 : Nat} {r : Int32} {h' : XH}   (C : x_C p s m args meth c O cX8_readAtom 4 RX8 (some .boolean))  (hrec : ∀ {h : XH} {v1 : Int32} {r : Int32} {h' : XH}, fr h v1 = some (r, h') → x_M l O K yX8_readAtom cX8_readAtom 4 (some .boolean) FR0 LR0 h [.ref (oX O + 1), .int v1] (some (.int r)) h') (ls : Array Slot) (H : Heap) (locs : List Loc) (h : XH) (hl : lv_has ls 4 []) (hR : x_R O K h H) (hS : va_S (oA O) s.heap H locs) (hf : f_X8_readAtom_161 fr (oX O) h = some (r, h')) : W p l e (x_rm (FR0 + 3) (LR0 + 67)) s m args below meth c H locs 0 0 (MQ below (x_Qc O K h' (some (.int r))) args s 0 0 (oA O)) (F0 m 161 ls []) := by
  have hx := C.1
  have hb := C.2.1
  rw [f_X8_readAtom_161] at hf
  refine lv_iconst (v := 0) hx hb dX8_readAtom_161 rfl ?_
  cases hf
  exact x_zret C hR hS (Or.inl rfl) dX8_readAtom_162
set_option maxRecDepth 20000 in
theorem B_X8_readAtom_146 {p : Program} {l : Launch} {e : Env} {s : State} {m : MethodId} {args : Array Value} {below : List Frame} {meth : Method} {c : Code} {O : XO} {K : XK} {fr : XH → Int32 → Option (Int32 × XH)} {FR0 LR0 : Nat} {r : Int32} {h' : XH}   (C : x_C p s m args meth c O cX8_readAtom 4 RX8 (some .boolean))  (hrec : ∀ {h : XH} {v1 : Int32} {r : Int32} {h' : XH}, fr h v1 = some (r, h') → x_M l O K yX8_readAtom cX8_readAtom 4 (some .boolean) FR0 LR0 h [.ref (oX O + 1), .int v1] (some (.int r)) h') (ls : Array Slot) (H : Heap) (locs : List Loc) (h : XH) (v3 : Int32) (hl : lv_has ls 4 [(0, .ref (oX O + 1)), (3, .int v3)]) (hR : x_R O K h H) (hS : va_S (oA O) s.heap H locs) (hf : f_X8_readAtom_146 fr (oX O) h v3 = some (r, h')) : W p l e (x_rm (FR0 + 3) (LR0 + 67)) s m args below meth c H locs 0 0 (MQ below (x_Qc O K h' (some (.int r))) args s 0 0 (oA O)) (F0 m 146 ls []) := by
  have hx := C.1
  have hb := C.2.1
  rw [f_X8_readAtom_146] at hf
  refine lv_aload_n hx hb dX8_readAtom_146 rfl (lv_at hl 0 rfl) ?_
  refine lv_iload_n hx hb dX8_readAtom_147 rfl (lv_at hl 1 rfl) ?_
  obtain ⟨q11, eq11, hf⟩ := x_bd hf
  refine x_cVi1 C hR hS (S_X8_take  eq11) (x_k hR 1 rfl) (by decide) rfl mf_X8_take tw_719 (by show 0 + 1 ≤ FR0 + 3; omega) (by show 8 + (2 + 11) + (0) ≤ LR0 + 67; omega) hl.1 (Nat.le_of_ble_eq_true rfl) dX8_readAtom_148 ⟨Nat.le_refl _, Nat.le_refl _⟩ (fun H locs hR hS => ?_)
  refine lv_if_eq (tgt := 161) hx hb dX8_readAtom_151 rfl (fun hc => ?_) (fun hc => ?_)
  · have hf := x_ip hc hf
    exact B_X8_readAtom_161  C  hrec  ls _ _ q11.2  (lv_sub hl [] rfl) hR hS hf
  · have hf := x_in hc hf
    refine lv_aload_n hx hb dX8_readAtom_154 rfl (lv_at hl 0 rfl) ?_
    obtain ⟨q12, eq12, hf⟩ := x_bd hf
    refine x_cVi0 C hR hS (S_X8_readSum  eq12) (x_k hR 1 rfl) (by decide) rfl mf_X8_readSum tw_739 (by show 1 + 1 ≤ FR0 + 3; omega) (by show 8 + (3 + 11) + (21) ≤ LR0 + 67; omega) hl.1 (Nat.le_of_ble_eq_true rfl) dX8_readAtom_155 ⟨Nat.le_refl _, Nat.le_refl _⟩ (fun H locs hR hS => ?_)
    refine lv_if_ne (tgt := 163) hx hb dX8_readAtom_158 rfl (fun hc => ?_) (fun hc => ?_)
    · have hf := x_in hc hf
      refine lv_aload_n hx hb dX8_readAtom_163 rfl (lv_at hl 0 rfl) ?_
      refine lv_iload_n hx hb dX8_readAtom_164 rfl (lv_at hl 1 rfl) ?_
      obtain ⟨h13, eh13, hf⟩ := x_bd hf
      refine x_cVv1 C hR hS (S_X8_write  eh13) (x_k hR 1 rfl) (by decide) rfl mf_X8_write tw_735 (by show 0 + 1 ≤ FR0 + 3; omega) (by show 8 + (2 + 11) + (0) ≤ LR0 + 67; omega) hl.1 (Nat.le_of_ble_eq_true rfl) dX8_readAtom_165 ⟨Nat.le_refl _, Nat.le_refl _⟩ (fun H locs hR hS => ?_)
      refine lv_iconst (v := 1) hx hb dX8_readAtom_168 rfl ?_
      cases hf
      exact x_zret C hR hS (Or.inr rfl) dX8_readAtom_169
    · have hf := x_ip hc hf
      exact B_X8_readAtom_161  C  hrec  ls _ _ q12.2  (lv_sub hl [] rfl) hR hS hf
set_option maxRecDepth 20000 in
theorem B_X8_readAtom_118 {p : Program} {l : Launch} {e : Env} {s : State} {m : MethodId} {args : Array Value} {below : List Frame} {meth : Method} {c : Code} {O : XO} {K : XK} {fr : XH → Int32 → Option (Int32 × XH)} {FR0 LR0 : Nat} {r : Int32} {h' : XH}   (C : x_C p s m args meth c O cX8_readAtom 4 RX8 (some .boolean))  (hrec : ∀ {h : XH} {v1 : Int32} {r : Int32} {h' : XH}, fr h v1 = some (r, h') → x_M l O K yX8_readAtom cX8_readAtom 4 (some .boolean) FR0 LR0 h [.ref (oX O + 1), .int v1] (some (.int r)) h') (ls : Array Slot) (H : Heap) (locs : List Loc) (h : XH) (hl : lv_has ls 4 [(0, .ref (oX O + 1))]) (hR : x_R O K h H) (hS : va_S (oA O) s.heap H locs) (hf : f_X8_readAtom_118 fr (oX O) h = some (r, h')) : W p l e (x_rm (FR0 + 3) (LR0 + 67)) s m args below meth c H locs 0 0 (MQ below (x_Qc O K h' (some (.int r))) args s 0 0 (oA O)) (F0 m 118 ls []) := by
  have hx := C.1
  have hb := C.2.1
  rw [f_X8_readAtom_118] at hf
  refine lv_aload_n hx hb dX8_readAtom_118 rfl (lv_at hl 0 rfl) ?_
  obtain ⟨q9, eq9, hf⟩ := x_bd hf
  refine x_cVi0 C hR hS (S_X8_readSum  eq9) (x_k hR 1 rfl) (by decide) rfl mf_X8_readSum tw_739 (by show 1 + 1 ≤ FR0 + 3; omega) (by show 8 + (3 + 11) + (21) ≤ LR0 + 67; omega) hl.1 (Nat.le_of_ble_eq_true rfl) dX8_readAtom_119 ⟨Nat.le_refl _, Nat.le_refl _⟩ (fun H locs hR hS => ?_)
  refine lv_if_ne (tgt := 127) hx hb dX8_readAtom_122 rfl (fun hc => ?_) (fun hc => ?_)
  · have hf := x_in hc hf
    refine lv_aload_n hx hb dX8_readAtom_127 rfl (lv_at hl 0 rfl) ?_
    obtain ⟨v_10, ev_10, hf⟩ := x_bd hf
    refine x_cVi0 C hR hS (S_X8_here  ev_10) (x_k hR 1 rfl) (by decide) rfl mf_X8_here tw_711 (by show 0 + 1 ≤ FR0 + 3; omega) (by show 8 + (1 + 11) + (0) ≤ LR0 + 67; omega) hl.1 (Nat.le_of_ble_eq_true rfl) dX8_readAtom_128 ⟨Nat.le_refl _, Nat.le_refl _⟩ (fun H locs hR hS => ?_)
    refine lv_istore_n (lv' := [(3, _), (0, _)]) hx hb dX8_readAtom_131 rfl hl (Nat.le_of_ble_eq_true rfl) rfl (fun ls hl => ?_)
    refine lv_iload_n hx hb dX8_readAtom_132 rfl (lv_at hl 0 rfl) ?_
    refine lv_sipush (v := 1160) hx hb dX8_readAtom_133 rfl ?_
    refine lv_icmp_eq (tgt := 146) hx hb dX8_readAtom_136 rfl (fun hc => ?_) (fun hc => ?_)
    · have hf := x_ip hc hf
      exact B_X8_readAtom_146  C  hrec  ls _ _ q9.2 _  (lv_sub hl [1, 0] rfl) hR hS hf
    · have hf := x_in hc hf
      refine lv_iload_n hx hb dX8_readAtom_139 rfl (lv_at hl 0 rfl) ?_
      refine lv_sipush (v := 1162) hx hb dX8_readAtom_140 rfl ?_
      refine lv_icmp_ne (tgt := 161) hx hb dX8_readAtom_143 rfl (fun hc => ?_) (fun hc => ?_)
      · have hf := x_in hc hf
        exact B_X8_readAtom_161  C  hrec  ls _ _ q9.2  (lv_sub hl [] rfl) hR hS hf
      · have hf := x_ip hc hf
        exact B_X8_readAtom_146  C  hrec  ls _ _ q9.2 _  (lv_sub hl [1, 0] rfl) hR hS hf
  · have hf := x_ip hc hf
    refine lv_iconst (v := 0) hx hb dX8_readAtom_125 rfl ?_
    cases hf
    exact x_zret C hR hS (Or.inl rfl) dX8_readAtom_126
set_option maxRecDepth 20000 in
theorem S_X8_readAtomB {l : Launch} {O : XO} {K : XK} {fr : XH → Int32 → Option (Int32 × XH)} {FR0 LR0 : Nat} (hrec : ∀ {h : XH} {v1 : Int32} {r : Int32} {h' : XH}, fr h v1 = some (r, h') → x_M l O K yX8_readAtom cX8_readAtom 4 (some .boolean) FR0 LR0 h [.ref (oX O + 1), .int v1] (some (.int r)) h') {h : XH} {v1 : Int32}  {r : Int32} {h' : XH}  (hf : f_X8_readAtomB fr (oX O) h v1 = some (r, h')) : x_M l O K yX8_readAtom cX8_readAtom 4 (some .boolean) (FR0 + 3) (LR0 + 67) h [.ref (oX O + 1), .int v1] (some (.int r)) h' := by
  refine x_enter (by decide) (Nat.le_of_ble_eq_true rfl) (fun p e s m args below meth c C hR ls hl => ?_)
  have hS : va_S (oA O) s.heap s.heap [] := va_S.rf
  have hx := C.1
  have hb := C.2.1
  have hl : lv_has ls 4 [(0, .ref (oX O + 1)), (1, .int v1)] := hl
  rw [f_X8_readAtomB] at hf
  refine lv_aload_n hx hb dX8_readAtom_0 rfl (lv_at hl 0 rfl) ?_
  obtain ⟨v_1, ev_1, hf⟩ := x_bd hf
  refine x_cVi0 C hR hS (S_X8_here  ev_1) (x_k hR 1 rfl) (by decide) rfl mf_X8_here tw_711 (by show 0 + 1 ≤ FR0 + 3; omega) (by show 8 + (1 + 11) + (0) ≤ LR0 + 67; omega) hl.1 (Nat.le_of_ble_eq_true rfl) dX8_readAtom_1 ⟨Nat.le_refl _, Nat.le_refl _⟩ (fun H locs hR hS => ?_)
  refine lv_istore_n (lv' := [(2, _), (0, _), (1, _)]) hx hb dX8_readAtom_4 rfl hl (Nat.le_of_ble_eq_true rfl) rfl (fun ls hl => ?_)
  refine lv_iload_n hx hb dX8_readAtom_5 rfl (lv_at hl 0 rfl) ?_
  refine lv_sipush (v := 1045) hx hb dX8_readAtom_6 rfl ?_
  refine lv_icmp_eq (tgt := 19) hx hb dX8_readAtom_9 rfl (fun hc => ?_) (fun hc => ?_)
  · have hf := x_ip hc hf
    exact B_X8_readAtom_19  C  hrec  ls _ _ h _ _  (lv_sub hl [1, 2, 0] rfl) hR hS hf
  · have hf := x_in hc hf
    refine lv_iload_n hx hb dX8_readAtom_12 rfl (lv_at hl 0 rfl) ?_
    refine lv_sipush (v := 1140) hx hb dX8_readAtom_13 rfl ?_
    refine lv_icmp_ne (tgt := 85) hx hb dX8_readAtom_16 rfl (fun hc => ?_) (fun hc => ?_)
    · have hf := x_in hc hf
      refine lv_iload_n hx hb dX8_readAtom_85 rfl (lv_at hl 0 rfl) ?_
      refine lv_sipush (v := 1020) hx hb dX8_readAtom_86 rfl ?_
      refine lv_icmp_lt (tgt := 118) hx hb dX8_readAtom_89 rfl (fun hc => ?_) (fun hc => ?_)
      · have hf := x_ip hc hf
        exact B_X8_readAtom_118  C  hrec  ls _ _ h  (lv_sub hl [1] rfl) hR hS hf
      · have hf := x_in hc hf
        refine lv_iload_n hx hb dX8_readAtom_92 rfl (lv_at hl 0 rfl) ?_
        refine lv_sipush (v := 1040) hx hb dX8_readAtom_93 rfl ?_
        refine lv_icmp_ge (tgt := 118) hx hb dX8_readAtom_96 rfl (fun hc => ?_) (fun hc => ?_)
        · have hf := x_ip hc hf
          exact B_X8_readAtom_118  C  hrec  ls _ _ h  (lv_sub hl [1] rfl) hR hS hf
        · have hf := x_in hc hf
          refine lv_aload_n hx hb dX8_readAtom_99 rfl (lv_at hl 1 rfl) ?_
          refine lv_iload_n hx hb dX8_readAtom_100 rfl (lv_at hl 0 rfl) ?_
          refine lv_sipush (v := 1020) hx hb dX8_readAtom_101 rfl ?_
          refine lv_isub hx hb dX8_readAtom_104 ?_
          refine lv_sipush (v := 1000) hx hb dX8_readAtom_105 rfl ?_
          refine lv_iadd hx hb dX8_readAtom_108 ?_
          obtain ⟨h14, eh14, hf⟩ := x_bd hf
          refine x_cVv1 C hR hS (S_X8_write  eh14) (x_k hR 1 rfl) (by decide) rfl mf_X8_write tw_735 (by show 0 + 1 ≤ FR0 + 3; omega) (by show 8 + (2 + 11) + (0) ≤ LR0 + 67; omega) hl.1 (Nat.le_of_ble_eq_true rfl) dX8_readAtom_109 ⟨Nat.le_refl _, Nat.le_refl _⟩ (fun H locs hR hS => ?_)
          refine lv_aload_n hx hb dX8_readAtom_112 rfl (lv_at hl 1 rfl) ?_
          refine lv_iload_n hx hb dX8_readAtom_113 rfl (lv_at hl 0 rfl) ?_
          obtain ⟨q15, eq15, hf⟩ := x_bd hf
          refine x_cVi1 C hR hS (S_X8_take  eq15) (x_k hR 1 rfl) (by decide) rfl mf_X8_take tw_719 (by show 0 + 1 ≤ FR0 + 3; omega) (by show 8 + (2 + 11) + (0) ≤ LR0 + 67; omega) hl.1 (Nat.le_of_ble_eq_true rfl) dX8_readAtom_114 ⟨Nat.le_refl _, Nat.le_refl _⟩ (fun H locs hR hS => ?_)
          obtain ⟨g16, hf⟩ := x_gd hf
          cases hf
          exact x_zret C hR hS (x_isb_of g16) dX8_readAtom_117
    · have hf := x_ip hc hf
      exact B_X8_readAtom_19  C  hrec  ls _ _ h _ _  (lv_sub hl [1, 2, 0] rfl) hR hS hf
theorem S_X8_readAtomR {l : Launch} {O : XO} {K : XK} : ∀ (d : Nat) {h : XH} {v1 : Int32} {r : Int32} {h' : XH}, f_X8_readAtom (oX O) d h v1 = some (r, h') → x_M l O K yX8_readAtom cX8_readAtom 4 (some .boolean) (3 * d) (67 * d) h [.ref (oX O + 1), .int v1] (some (.int r)) h' := by
  intro d
  induction d with
  | zero =>
    intro h v1 r h' hf
    rw [f_X8_readAtom] at hf
    cases hf
  | succ d ih =>
    intro h v1 r h' hf
    rw [f_X8_readAtom] at hf
    exact S_X8_readAtomB (FR0 := 3 * d) (LR0 := 67 * d) ih hf
def f_X12_readAllOf_9 (fr : XH → Option (Int32 × XH)) (x : Nat) : Nat → XH → Option (Int32 × XH)
  | 0, _ => none
  | n + 1, h => Option.bind (f_X12_passes x h 69) (fun q2 => if q2.1 = 0 then some (1, q2.2) else Option.bind (fr q2.2) (fun q3 => if q3.1 = 0 then some (0, q3.2) else Option.bind (f_X12_emits x q3.2 15 0) (fun h4 => f_X12_readAllOf_9 fr x n h4)))
def f_X12_readAllOf (fr : XH → Option (Int32 × XH)) (x : Nat) (h : XH) : Option (Int32 × XH) := Option.bind (fr h) (fun q1 => if q1.1 = 0 then some (0, q1.2) else f_X12_readAllOf_9 fr x x_FU q1.2)
set_option maxRecDepth 20000 in
theorem B_X12_readAllOf_9 {p : Program} {l : Launch} {e : Env} {s : State} {m : MethodId} {args : Array Value} {below : List Frame} {meth : Method} {c : Code} {O : XO} {K : XK} {fr : XH → Option (Int32 × XH)} {FR0 LR0 : Nat} {r : Int32} {h' : XH}   (C : x_C p s m args meth c O cX12_readAllOf 1 RX12 (some .boolean))  (hrec : ∀ {h : XH} {r : Int32} {h' : XH}, fr h  = some (r, h') → x_M l O K yX12_readAtom cX12_readAtom 3 (some .boolean) FR0 LR0 h [.ref (oX O + 64)] (some (.int r)) h') : ∀ (n : Nat) (ls : Array Slot) (H : Heap) (locs : List Loc) (h : XH) (hl : lv_has ls 1 [(0, .ref (oX O + 64))]) (hR : x_R O K h H) (hS : va_S (oA O) s.heap H locs) (hf : f_X12_readAllOf_9 fr (oX O) n h = some (r, h')), W p l e (x_rm (FR0 + 6) (LR0 + 166)) s m args below meth c H locs 0 0 (MQ below (x_Qc O K h' (some (.int r))) args s 0 0 (oA O)) (F0 m 9 ls []) := by
  have hx := C.1
  have hb := C.2.1
  intro n
  induction n with
  | zero =>
    intro ls H locs h hl hR hS hf
    rw [f_X12_readAllOf_9] at hf
    cases hf
  | succ n ih =>
    intro ls H locs h hl hR hS hf
    rw [f_X12_readAllOf_9] at hf
    refine lv_aload_n hx hb dX12_readAllOf_9 rfl (lv_at hl 0 rfl) ?_
    refine va_ldcS hx hb C.2.2.2.1 (xs_69 C) dX12_readAllOf_10 ?_
    obtain ⟨q2, eq2, hf⟩ := x_bd hf
    refine x_cVi1 C hR hS (S_X12_passes (by decide) eq2) (x_k hR 64 rfl) (by decide) rfl mf_X12_passes tw_1703 (by show 5 + 1 ≤ FR0 + 6; omega) (by show 8 + (2 + 11) + (145) ≤ LR0 + 166; omega) hl.1 (Nat.le_of_ble_eq_true rfl) dX12_readAllOf_12 ⟨Nat.le_refl _, Nat.le_refl _⟩ (fun H locs hR hS => ?_)
    refine lv_if_eq (tgt := 37) hx hb dX12_readAllOf_15 rfl (fun hc => ?_) (fun hc => ?_)
    · have hf := x_ip hc hf
      refine lv_iconst (v := 1) hx hb dX12_readAllOf_37 rfl ?_
      cases hf
      exact x_zret C hR hS (Or.inr rfl) dX12_readAllOf_38
    · have hf := x_in hc hf
      refine lv_aload_n hx hb dX12_readAllOf_18 rfl (lv_at hl 0 rfl) ?_
      obtain ⟨q3, eq3, hf⟩ := x_bd hf
      refine x_cVi0 C hR hS (hrec  eq3) (x_k hR 64 rfl) (by decide) rfl mf_X12_readAtom tw_1715 (by show FR0 + 0 + 1 ≤ FR0 + 6; omega) (by show 8 + (3 + 11) + (LR0 + 0) ≤ LR0 + 166; omega) hl.1 (Nat.le_of_ble_eq_true rfl) dX12_readAllOf_19 ⟨Nat.le_refl _, Nat.le_refl _⟩ (fun H locs hR hS => ?_)
      refine lv_if_ne (tgt := 27) hx hb dX12_readAllOf_22 rfl (fun hc => ?_) (fun hc => ?_)
      · have hf := x_in hc hf
        refine lv_aload_n hx hb dX12_readAllOf_27 rfl (lv_at hl 0 rfl) ?_
        refine lv_bipush (v := 15) hx hb dX12_readAllOf_28 rfl ?_
        refine lv_iconst (v := 0) hx hb dX12_readAllOf_30 rfl ?_
        obtain ⟨h4, eh4, hf⟩ := x_bd hf
        refine x_cVv2 C hR hS (S_X12_emits  eh4) (x_k hR 64 rfl) (by decide) rfl mf_X12_emits tw_1720 (by show 1 + 1 ≤ FR0 + 6; omega) (by show 8 + (4 + 11) + (20) ≤ LR0 + 166; omega) hl.1 (Nat.le_of_ble_eq_true rfl) dX12_readAllOf_31 ⟨Nat.le_refl _, Nat.le_refl _⟩ (fun H locs hR hS => ?_)
        refine lv_goto (tgt := 9) hx hb dX12_readAllOf_34 rfl ?_
        exact ih ls _ _ h4  (lv_sub hl [0] rfl) hR hS hf
      · have hf := x_ip hc hf
        refine lv_iconst (v := 0) hx hb dX12_readAllOf_25 rfl ?_
        cases hf
        exact x_zret C hR hS (Or.inl rfl) dX12_readAllOf_26
set_option maxRecDepth 20000 in
theorem S_X12_readAllOf {l : Launch} {O : XO} {K : XK} {fr : XH → Option (Int32 × XH)} {FR0 LR0 : Nat} (hrec : ∀ {h : XH} {r : Int32} {h' : XH}, fr h  = some (r, h') → x_M l O K yX12_readAtom cX12_readAtom 3 (some .boolean) FR0 LR0 h [.ref (oX O + 64)] (some (.int r)) h') {h : XH}  {r : Int32} {h' : XH}  (hf : f_X12_readAllOf fr (oX O) h = some (r, h')) : x_M l O K yX12_readAllOf cX12_readAllOf 1 (some .boolean) (FR0 + 6) (LR0 + 166) h [.ref (oX O + 64)] (some (.int r)) h' := by
  refine x_enter (by decide) (Nat.le_of_ble_eq_true rfl) (fun p e s m args below meth c C hR ls hl => ?_)
  have hS : va_S (oA O) s.heap s.heap [] := va_S.rf
  have hx := C.1
  have hb := C.2.1
  have hl : lv_has ls 1 [(0, .ref (oX O + 64))] := hl
  rw [f_X12_readAllOf] at hf
  refine lv_aload_n hx hb dX12_readAllOf_0 rfl (lv_at hl 0 rfl) ?_
  obtain ⟨q1, eq1, hf⟩ := x_bd hf
  refine x_cVi0 C hR hS (hrec  eq1) (x_k hR 64 rfl) (by decide) rfl mf_X12_readAtom tw_1715 (by show FR0 + 0 + 1 ≤ FR0 + 6; omega) (by show 8 + (3 + 11) + (LR0 + 0) ≤ LR0 + 166; omega) hl.1 (Nat.le_of_ble_eq_true rfl) dX12_readAllOf_1 ⟨Nat.le_refl _, Nat.le_refl _⟩ (fun H locs hR hS => ?_)
  refine lv_if_ne (tgt := 9) hx hb dX12_readAllOf_4 rfl (fun hc => ?_) (fun hc => ?_)
  · have hf := x_in hc hf
    exact B_X12_readAllOf_9  C  hrec x_FU ls _ _ q1.2  (lv_sub hl [0] rfl) hR hS hf
  · have hf := x_ip hc hf
    refine lv_iconst (v := 0) hx hb dX12_readAllOf_7 rfl ?_
    cases hf
    exact x_zret C hR hS (Or.inl rfl) dX12_readAllOf_8
def f_X12_readCond_9 (fr : XH → Option (Int32 × XH)) (x : Nat) : Nat → XH → Option (Int32 × XH)
  | 0, _ => none
  | n + 1, h => Option.bind (f_X12_passes x h 70) (fun q2 => if q2.1 = 0 then some (1, q2.2) else Option.bind (f_X12_readAllOf fr x q2.2) (fun q3 => if q3.1 = 0 then some (0, q3.2) else Option.bind (f_X12_emits x q3.2 16 0) (fun h4 => f_X12_readCond_9 fr x n h4)))
def f_X12_readCond (fr : XH → Option (Int32 × XH)) (x : Nat) (h : XH) : Option (Int32 × XH) := Option.bind (f_X12_readAllOf fr x h) (fun q1 => if q1.1 = 0 then some (0, q1.2) else f_X12_readCond_9 fr x x_FU q1.2)
set_option maxRecDepth 20000 in
theorem B_X12_readCond_9 {p : Program} {l : Launch} {e : Env} {s : State} {m : MethodId} {args : Array Value} {below : List Frame} {meth : Method} {c : Code} {O : XO} {K : XK} {fr : XH → Option (Int32 × XH)} {FR0 LR0 : Nat} {r : Int32} {h' : XH}   (C : x_C p s m args meth c O cX12_readCond 1 RX12 (some .boolean))  (hrec : ∀ {h : XH} {r : Int32} {h' : XH}, fr h  = some (r, h') → x_M l O K yX12_readAtom cX12_readAtom 3 (some .boolean) FR0 LR0 h [.ref (oX O + 64)] (some (.int r)) h') : ∀ (n : Nat) (ls : Array Slot) (H : Heap) (locs : List Loc) (h : XH) (hl : lv_has ls 1 [(0, .ref (oX O + 64))]) (hR : x_R O K h H) (hS : va_S (oA O) s.heap H locs) (hf : f_X12_readCond_9 fr (oX O) n h = some (r, h')), W p l e (x_rm (FR0 + 7) (LR0 + 186)) s m args below meth c H locs 0 0 (MQ below (x_Qc O K h' (some (.int r))) args s 0 0 (oA O)) (F0 m 9 ls []) := by
  have hx := C.1
  have hb := C.2.1
  intro n
  induction n with
  | zero =>
    intro ls H locs h hl hR hS hf
    rw [f_X12_readCond_9] at hf
    cases hf
  | succ n ih =>
    intro ls H locs h hl hR hS hf
    rw [f_X12_readCond_9] at hf
    refine lv_aload_n hx hb dX12_readCond_9 rfl (lv_at hl 0 rfl) ?_
    refine va_ldcS hx hb C.2.2.2.1 (xs_70 C) dX12_readCond_10 ?_
    obtain ⟨q2, eq2, hf⟩ := x_bd hf
    refine x_cVi1 C hR hS (S_X12_passes (by decide) eq2) (x_k hR 64 rfl) (by decide) rfl mf_X12_passes tw_1703 (by show 5 + 1 ≤ FR0 + 7; omega) (by show 8 + (2 + 11) + (145) ≤ LR0 + 186; omega) hl.1 (Nat.le_of_ble_eq_true rfl) dX12_readCond_12 ⟨Nat.le_refl _, Nat.le_refl _⟩ (fun H locs hR hS => ?_)
    refine lv_if_eq (tgt := 37) hx hb dX12_readCond_15 rfl (fun hc => ?_) (fun hc => ?_)
    · have hf := x_ip hc hf
      refine lv_iconst (v := 1) hx hb dX12_readCond_37 rfl ?_
      cases hf
      exact x_zret C hR hS (Or.inr rfl) dX12_readCond_38
    · have hf := x_in hc hf
      refine lv_aload_n hx hb dX12_readCond_18 rfl (lv_at hl 0 rfl) ?_
      obtain ⟨q3, eq3, hf⟩ := x_bd hf
      refine x_cVi0 C hR hS (S_X12_readAllOf hrec  eq3) (x_k hR 64 rfl) (by decide) rfl mf_X12_readAllOf tw_1711 (by show FR0 + 6 + 1 ≤ FR0 + 7; omega) (by show 8 + (1 + 11) + (LR0 + 166) ≤ LR0 + 186; omega) hl.1 (Nat.le_of_ble_eq_true rfl) dX12_readCond_19 ⟨Nat.le_refl _, Nat.le_refl _⟩ (fun H locs hR hS => ?_)
      refine lv_if_ne (tgt := 27) hx hb dX12_readCond_22 rfl (fun hc => ?_) (fun hc => ?_)
      · have hf := x_in hc hf
        refine lv_aload_n hx hb dX12_readCond_27 rfl (lv_at hl 0 rfl) ?_
        refine lv_bipush (v := 16) hx hb dX12_readCond_28 rfl ?_
        refine lv_iconst (v := 0) hx hb dX12_readCond_30 rfl ?_
        obtain ⟨h4, eh4, hf⟩ := x_bd hf
        refine x_cVv2 C hR hS (S_X12_emits  eh4) (x_k hR 64 rfl) (by decide) rfl mf_X12_emits tw_1720 (by show 1 + 1 ≤ FR0 + 7; omega) (by show 8 + (4 + 11) + (20) ≤ LR0 + 186; omega) hl.1 (Nat.le_of_ble_eq_true rfl) dX12_readCond_31 ⟨Nat.le_refl _, Nat.le_refl _⟩ (fun H locs hR hS => ?_)
        refine lv_goto (tgt := 9) hx hb dX12_readCond_34 rfl ?_
        exact ih ls _ _ h4  (lv_sub hl [0] rfl) hR hS hf
      · have hf := x_ip hc hf
        refine lv_iconst (v := 0) hx hb dX12_readCond_25 rfl ?_
        cases hf
        exact x_zret C hR hS (Or.inl rfl) dX12_readCond_26
set_option maxRecDepth 20000 in
theorem S_X12_readCond {l : Launch} {O : XO} {K : XK} {fr : XH → Option (Int32 × XH)} {FR0 LR0 : Nat} (hrec : ∀ {h : XH} {r : Int32} {h' : XH}, fr h  = some (r, h') → x_M l O K yX12_readAtom cX12_readAtom 3 (some .boolean) FR0 LR0 h [.ref (oX O + 64)] (some (.int r)) h') {h : XH}  {r : Int32} {h' : XH}  (hf : f_X12_readCond fr (oX O) h = some (r, h')) : x_M l O K yX12_readCond cX12_readCond 1 (some .boolean) (FR0 + 7) (LR0 + 186) h [.ref (oX O + 64)] (some (.int r)) h' := by
  refine x_enter (by decide) (Nat.le_of_ble_eq_true rfl) (fun p e s m args below meth c C hR ls hl => ?_)
  have hS : va_S (oA O) s.heap s.heap [] := va_S.rf
  have hx := C.1
  have hb := C.2.1
  have hl : lv_has ls 1 [(0, .ref (oX O + 64))] := hl
  rw [f_X12_readCond] at hf
  refine lv_aload_n hx hb dX12_readCond_0 rfl (lv_at hl 0 rfl) ?_
  obtain ⟨q1, eq1, hf⟩ := x_bd hf
  refine x_cVi0 C hR hS (S_X12_readAllOf hrec  eq1) (x_k hR 64 rfl) (by decide) rfl mf_X12_readAllOf tw_1711 (by show FR0 + 6 + 1 ≤ FR0 + 7; omega) (by show 8 + (1 + 11) + (LR0 + 166) ≤ LR0 + 186; omega) hl.1 (Nat.le_of_ble_eq_true rfl) dX12_readCond_1 ⟨Nat.le_refl _, Nat.le_refl _⟩ (fun H locs hR hS => ?_)
  refine lv_if_ne (tgt := 9) hx hb dX12_readCond_4 rfl (fun hc => ?_) (fun hc => ?_)
  · have hf := x_in hc hf
    exact B_X12_readCond_9  C  hrec x_FU ls _ _ q1.2  (lv_sub hl [0] rfl) hR hS hf
  · have hf := x_ip hc hf
    refine lv_iconst (v := 0) hx hb dX12_readCond_7 rfl ?_
    cases hf
    exact x_zret C hR hS (Or.inl rfl) dX12_readCond_8
def f_X12_readAtom_179 (fr : XH → Option (Int32 × XH)) (x : Nat) (h : XH) : Option (Int32 × XH) := some (0, h)
def f_X12_readAtom_172 (fr : XH → Option (Int32 × XH)) (x : Nat) (h : XH) (v2 : Int32) : Option (Int32 × XH) := Option.bind (f_X12_readSum x h) (fun q8 => if q8.1 = 0 then f_X12_readAtom_179 fr x q8.2 else Option.bind (f_X12_emits x q8.2 (if v2 = 0 then 13 else 12) 0) (fun h10 => some (1, h10)))
def f_X12_readAtomB (fr : XH → Option (Int32 × XH)) (x : Nat) (h : XH) : Option (Int32 × XH) := Option.bind (f_X12_sign x h 40) (fun q1 => if q1.1 = 0 then Option.bind (f_X12_passes x q1.2 65) (fun q2 => if q2.1 = 0 then Option.bind (f_X12_letters x q2.2) (fun h3 => Option.bind (f_X12_tagAt x h3) (fun v_4 => if v_4 < 0 then x_let (x_i h3 (x + 64) 6 (h3.1 (x + 64) 8)) (fun h5 => Option.bind (f_X12_readSum x h5) (fun q6 => if q6.1 = 0 then some (0, q6.2) else Option.bind (f_X12_sign x q6.2 60) (fun q7 => if q7.1 = 0 then Option.bind (f_X12_sign x q7.2 62) (fun q11 => if q11.1 = 0 then f_X12_readAtom_179 fr x q11.2 else f_X12_readAtom_172 fr x q11.2 q7.1) else f_X12_readAtom_172 fr x q7.2 q7.1))) else Option.bind (f_X12_emits x h3 v_4 0) (fun h12 => some (1, h12)))) else if (q2.2.1 (x + 64) 9) = 6 then some (0, q2.2) else x_let (x_i q2.2 (x + 64) 9 ((q2.2.1 (x + 64) 9) + 1)) (fun h13 => Option.bind (fr h13) (fun q14 => if q14.1 = 0 then some (0, q14.2) else x_let (x_i q14.2 (x + 64) 9 ((q14.2.1 (x + 64) 9) - 1)) (fun h15 => Option.bind (f_X12_emits x h15 14 0) (fun h16 => some (1, h16)))))) else if (q1.2.1 (x + 64) 9) = 6 then some (0, q1.2) else x_let (x_i q1.2 (x + 64) 9 ((q1.2.1 (x + 64) 9) + 1)) (fun h17 => Option.bind (f_X12_readCond fr x h17) (fun q18 => if q18.1 = 0 then some (0, q18.2) else x_let (x_i q18.2 (x + 64) 9 ((q18.2.1 (x + 64) 9) - 1)) (fun h19 => Option.bind (f_X12_sign x h19 41) (fun q20 => if x_isb q20.1 = true then some (q20.1, q20.2) else none)))))
def f_X12_readAtom (x : Nat) : Nat → XH → Option (Int32 × XH)
  | 0, _ => none
  | d + 1, h => f_X12_readAtomB (f_X12_readAtom x d) x h 
set_option maxRecDepth 20000 in
theorem B_X12_readAtom_179 {p : Program} {l : Launch} {e : Env} {s : State} {m : MethodId} {args : Array Value} {below : List Frame} {meth : Method} {c : Code} {O : XO} {K : XK} {fr : XH → Option (Int32 × XH)} {FR0 LR0 : Nat} {r : Int32} {h' : XH}   (C : x_C p s m args meth c O cX12_readAtom 3 RX12 (some .boolean))  (hrec : ∀ {h : XH} {r : Int32} {h' : XH}, fr h  = some (r, h') → x_M l O K yX12_readAtom cX12_readAtom 3 (some .boolean) FR0 LR0 h [.ref (oX O + 64)] (some (.int r)) h') (ls : Array Slot) (H : Heap) (locs : List Loc) (h : XH) (hl : lv_has ls 3 []) (hR : x_R O K h H) (hS : va_S (oA O) s.heap H locs) (hf : f_X12_readAtom_179 fr (oX O) h = some (r, h')) : W p l e (x_rm (FR0 + 8) (LR0 + 206)) s m args below meth c H locs 0 0 (MQ below (x_Qc O K h' (some (.int r))) args s 0 0 (oA O)) (F0 m 179 ls []) := by
  have hx := C.1
  have hb := C.2.1
  rw [f_X12_readAtom_179] at hf
  refine lv_iconst (v := 0) hx hb dX12_readAtom_179 rfl ?_
  cases hf
  exact x_zret C hR hS (Or.inl rfl) dX12_readAtom_180
set_option maxRecDepth 20000 in
theorem B_X12_readAtom_172 {p : Program} {l : Launch} {e : Env} {s : State} {m : MethodId} {args : Array Value} {below : List Frame} {meth : Method} {c : Code} {O : XO} {K : XK} {fr : XH → Option (Int32 × XH)} {FR0 LR0 : Nat} {r : Int32} {h' : XH}   (C : x_C p s m args meth c O cX12_readAtom 3 RX12 (some .boolean))  (hrec : ∀ {h : XH} {r : Int32} {h' : XH}, fr h  = some (r, h') → x_M l O K yX12_readAtom cX12_readAtom 3 (some .boolean) FR0 LR0 h [.ref (oX O + 64)] (some (.int r)) h') (ls : Array Slot) (H : Heap) (locs : List Loc) (h : XH) (v2 : Int32) (hl : lv_has ls 3 [(0, .ref (oX O + 64)), (2, .int v2)]) (hR : x_R O K h H) (hS : va_S (oA O) s.heap H locs) (hf : f_X12_readAtom_172 fr (oX O) h v2 = some (r, h')) : W p l e (x_rm (FR0 + 8) (LR0 + 206)) s m args below meth c H locs 0 0 (MQ below (x_Qc O K h' (some (.int r))) args s 0 0 (oA O)) (F0 m 172 ls []) := by
  have hx := C.1
  have hb := C.2.1
  rw [f_X12_readAtom_172] at hf
  refine lv_aload_n hx hb dX12_readAtom_172 rfl (lv_at hl 0 rfl) ?_
  obtain ⟨q8, eq8, hf⟩ := x_bd hf
  refine x_cVi0 C hR hS (S_X12_readSum  eq8) (x_k hR 64 rfl) (by decide) rfl mf_X12_readSum tw_1731 (by show 7 + 1 ≤ FR0 + 8; omega) (by show 8 + (1 + 11) + (186) ≤ LR0 + 206; omega) hl.1 (Nat.le_of_ble_eq_true rfl) dX12_readAtom_173 ⟨Nat.le_refl _, Nat.le_refl _⟩ (fun H locs hR hS => ?_)
  refine lv_if_ne (tgt := 181) hx hb dX12_readAtom_176 rfl (fun hc => ?_) (fun hc => ?_)
  · have hf := x_in hc hf
    refine lv_aload_n hx hb dX12_readAtom_181 rfl (lv_at hl 0 rfl) ?_
    refine lv_iload_n hx hb dX12_readAtom_182 rfl (lv_at hl 1 rfl) ?_
    have kM9 : ∀ (ls : Array Slot) (H : Heap) (locs : List Loc), lv_has ls 3 [] → x_R O K q8.2 H → va_S (oA O) s.heap H locs → W p l e (x_rm (FR0 + 8) (LR0 + 206)) s m args below meth c H locs 0 0 (MQ below (x_Qc O K h' (some (.int r))) args s 0 0 (oA O)) (F0 m 193 ls [.int (if v2 = 0 then 13 else 12), .ref (oX O + 64)]) := by
      intro ls H locs hl hR hS
      refine lv_iconst (v := 0) hx hb dX12_readAtom_193 rfl ?_
      obtain ⟨h10, eh10, hf⟩ := x_bd hf
      refine x_cVv2 C hR hS (S_X12_emits  eh10) (x_k hR 64 rfl) (by decide) rfl mf_X12_emits tw_1720 (by show 1 + 1 ≤ FR0 + 8; omega) (by show 8 + (4 + 11) + (20) ≤ LR0 + 206; omega) hl.1 (Nat.le_of_ble_eq_true rfl) dX12_readAtom_194 ⟨Nat.le_refl _, Nat.le_refl _⟩ (fun H locs hR hS => ?_)
      refine lv_iconst (v := 1) hx hb dX12_readAtom_197 rfl ?_
      cases hf
      exact x_zret C hR hS (Or.inr rfl) dX12_readAtom_198
    refine lv_if_eq (tgt := 191) hx hb dX12_readAtom_183 rfl (fun hc => ?_) (fun hc => ?_)
    · try simp only [if_pos hc] at kM9
      refine lv_bipush (v := 13) hx hb dX12_readAtom_191 rfl ?_
      exact kM9 ls _ _ (lv_sub hl [] rfl) hR hS
    · try simp only [if_neg hc] at kM9
      refine lv_bipush (v := 12) hx hb dX12_readAtom_186 rfl ?_
      refine lv_goto (tgt := 193) hx hb dX12_readAtom_188 rfl ?_
      exact kM9 ls _ _ (lv_sub hl [] rfl) hR hS
  · have hf := x_ip hc hf
    exact B_X12_readAtom_179  C  hrec  ls _ _ q8.2  (lv_sub hl [] rfl) hR hS hf
set_option maxRecDepth 20000 in
theorem S_X12_readAtomB {l : Launch} {O : XO} {K : XK} {fr : XH → Option (Int32 × XH)} {FR0 LR0 : Nat} (hrec : ∀ {h : XH} {r : Int32} {h' : XH}, fr h  = some (r, h') → x_M l O K yX12_readAtom cX12_readAtom 3 (some .boolean) FR0 LR0 h [.ref (oX O + 64)] (some (.int r)) h') {h : XH}  {r : Int32} {h' : XH}  (hf : f_X12_readAtomB fr (oX O) h = some (r, h')) : x_M l O K yX12_readAtom cX12_readAtom 3 (some .boolean) (FR0 + 8) (LR0 + 206) h [.ref (oX O + 64)] (some (.int r)) h' := by
  refine x_enter (by decide) (Nat.le_of_ble_eq_true rfl) (fun p e s m args below meth c C hR ls hl => ?_)
  have hS : va_S (oA O) s.heap s.heap [] := va_S.rf
  have hx := C.1
  have hb := C.2.1
  have hl : lv_has ls 3 [(0, .ref (oX O + 64))] := hl
  rw [f_X12_readAtomB] at hf
  refine lv_aload_n hx hb dX12_readAtom_0 rfl (lv_at hl 0 rfl) ?_
  refine lv_bipush (v := 40) hx hb dX12_readAtom_1 rfl ?_
  obtain ⟨q1, eq1, hf⟩ := x_bd hf
  refine x_cVi1 C hR hS (S_X12_sign  eq1) (x_k hR 64 rfl) (by decide) rfl mf_X12_sign tw_1682 (by show 2 + 1 ≤ FR0 + 8; omega) (by show 8 + (2 + 11) + (42) ≤ LR0 + 206; omega) hl.1 (Nat.le_of_ble_eq_true rfl) dX12_readAtom_3 ⟨Nat.le_refl _, Nat.le_refl _⟩ (fun H locs hR hS => ?_)
  refine lv_if_eq (tgt := 56) hx hb dX12_readAtom_6 rfl (fun hc => ?_) (fun hc => ?_)
  · have hf := x_ip hc hf
    refine lv_aload_n hx hb dX12_readAtom_56 rfl (lv_at hl 0 rfl) ?_
    refine va_ldcS hx hb C.2.2.2.1 (xs_65 C) dX12_readAtom_57 ?_
    obtain ⟨q2, eq2, hf⟩ := x_bd hf
    refine x_cVi1 C hR hS (S_X12_passes (by decide) eq2) (x_k hR 64 rfl) (by decide) rfl mf_X12_passes tw_1703 (by show 5 + 1 ≤ FR0 + 8; omega) (by show 8 + (2 + 11) + (145) ≤ LR0 + 206; omega) hl.1 (Nat.le_of_ble_eq_true rfl) dX12_readAtom_59 ⟨Nat.le_refl _, Nat.le_refl _⟩ (fun H locs hR hS => ?_)
    refine lv_if_eq (tgt := 114) hx hb dX12_readAtom_62 rfl (fun hc => ?_) (fun hc => ?_)
    · have hf := x_ip hc hf
      refine lv_aload_n hx hb dX12_readAtom_114 rfl (lv_at hl 0 rfl) ?_
      obtain ⟨h3, eh3, hf⟩ := x_bd hf
      refine x_cVv0 C hR hS (S_X12_letters  eh3) (x_k hR 64 rfl) (by decide) rfl mf_X12_letters tw_1660 (by show 2 + 1 ≤ FR0 + 8; omega) (by show 8 + (1 + 11) + (42) ≤ LR0 + 206; omega) hl.1 (Nat.le_of_ble_eq_true rfl) dX12_readAtom_115 ⟨Nat.le_refl _, Nat.le_refl _⟩ (fun H locs hR hS => ?_)
      refine lv_aload_n hx hb dX12_readAtom_118 rfl (lv_at hl 0 rfl) ?_
      obtain ⟨v_4, ev_4, hf⟩ := x_bd hf
      refine x_cVi0 C hR hS (S_X12_tagAt  ev_4) (x_k hR 64 rfl) (by decide) rfl mf_X12_tagAt tw_1724 (by show 5 + 1 ≤ FR0 + 8; omega) (by show 8 + (1 + 11) + (145) ≤ LR0 + 206; omega) hl.1 (Nat.le_of_ble_eq_true rfl) dX12_readAtom_119 ⟨Nat.le_refl _, Nat.le_refl _⟩ (fun H locs hR hS => ?_)
      refine lv_istore_n (lv' := [(1, _), (0, _)]) hx hb dX12_readAtom_122 rfl hl (Nat.le_of_ble_eq_true rfl) rfl (fun ls hl => ?_)
      refine lv_iload_n hx hb dX12_readAtom_123 rfl (lv_at hl 0 rfl) ?_
      refine lv_if_lt (tgt := 135) hx hb dX12_readAtom_124 rfl (fun hc => ?_) (fun hc => ?_)
      · have hf := x_ip hc hf
        refine lv_aload_n hx hb dX12_readAtom_135 rfl (lv_at hl 1 rfl) ?_
        refine lv_aload_n hx hb dX12_readAtom_136 rfl (lv_at hl 1 rfl) ?_
        refine gf_12_8 C hR (x_k hR 64 rfl) tw_1551 dX12_readAtom_137 ?_
        obtain ⟨h5, eh5, hf⟩ := x_lt hf
        refine pf_12_6 C hR hS (x_k hR 64 rfl) tw_1549 dX12_readAtom_140 (fun H locs hR hS => ?_)
        rw [← eh5] at hR
        refine lv_aload_n hx hb dX12_readAtom_143 rfl (lv_at hl 1 rfl) ?_
        obtain ⟨q6, eq6, hf⟩ := x_bd hf
        refine x_cVi0 C hR hS (S_X12_readSum  eq6) (x_k hR 64 rfl) (by decide) rfl mf_X12_readSum tw_1731 (by show 7 + 1 ≤ FR0 + 8; omega) (by show 8 + (1 + 11) + (186) ≤ LR0 + 206; omega) hl.1 (Nat.le_of_ble_eq_true rfl) dX12_readAtom_144 ⟨Nat.le_refl _, Nat.le_refl _⟩ (fun H locs hR hS => ?_)
        refine lv_if_ne (tgt := 152) hx hb dX12_readAtom_147 rfl (fun hc => ?_) (fun hc => ?_)
        · have hf := x_in hc hf
          refine lv_aload_n hx hb dX12_readAtom_152 rfl (lv_at hl 1 rfl) ?_
          refine lv_bipush (v := 60) hx hb dX12_readAtom_153 rfl ?_
          obtain ⟨q7, eq7, hf⟩ := x_bd hf
          refine x_cVi1 C hR hS (S_X12_sign  eq7) (x_k hR 64 rfl) (by decide) rfl mf_X12_sign tw_1682 (by show 2 + 1 ≤ FR0 + 8; omega) (by show 8 + (2 + 11) + (42) ≤ LR0 + 206; omega) hl.1 (Nat.le_of_ble_eq_true rfl) dX12_readAtom_155 ⟨Nat.le_refl _, Nat.le_refl _⟩ (fun H locs hR hS => ?_)
          refine lv_istore_n (lv' := [(2, _), (1, _), (0, _)]) hx hb dX12_readAtom_158 rfl hl (Nat.le_of_ble_eq_true rfl) rfl (fun ls hl => ?_)
          refine lv_iload_n hx hb dX12_readAtom_159 rfl (lv_at hl 0 rfl) ?_
          refine lv_if_ne (tgt := 172) hx hb dX12_readAtom_160 rfl (fun hc => ?_) (fun hc => ?_)
          · have hf := x_in hc hf
            exact B_X12_readAtom_172  C  hrec  ls _ _ q7.2 _  (lv_sub hl [2, 0] rfl) hR hS hf
          · have hf := x_ip hc hf
            refine lv_aload_n hx hb dX12_readAtom_163 rfl (lv_at hl 2 rfl) ?_
            refine lv_bipush (v := 62) hx hb dX12_readAtom_164 rfl ?_
            obtain ⟨q11, eq11, hf⟩ := x_bd hf
            refine x_cVi1 C hR hS (S_X12_sign  eq11) (x_k hR 64 rfl) (by decide) rfl mf_X12_sign tw_1682 (by show 2 + 1 ≤ FR0 + 8; omega) (by show 8 + (2 + 11) + (42) ≤ LR0 + 206; omega) hl.1 (Nat.le_of_ble_eq_true rfl) dX12_readAtom_166 ⟨Nat.le_refl _, Nat.le_refl _⟩ (fun H locs hR hS => ?_)
            refine lv_if_eq (tgt := 179) hx hb dX12_readAtom_169 rfl (fun hc => ?_) (fun hc => ?_)
            · have hf := x_ip hc hf
              exact B_X12_readAtom_179  C  hrec  ls _ _ q11.2  (lv_sub hl [] rfl) hR hS hf
            · have hf := x_in hc hf
              exact B_X12_readAtom_172  C  hrec  ls _ _ q11.2 _  (lv_sub hl [2, 0] rfl) hR hS hf
        · have hf := x_ip hc hf
          refine lv_iconst (v := 0) hx hb dX12_readAtom_150 rfl ?_
          cases hf
          exact x_zret C hR hS (Or.inl rfl) dX12_readAtom_151
      · have hf := x_in hc hf
        refine lv_aload_n hx hb dX12_readAtom_127 rfl (lv_at hl 1 rfl) ?_
        refine lv_iload_n hx hb dX12_readAtom_128 rfl (lv_at hl 0 rfl) ?_
        refine lv_iconst (v := 0) hx hb dX12_readAtom_129 rfl ?_
        obtain ⟨h12, eh12, hf⟩ := x_bd hf
        refine x_cVv2 C hR hS (S_X12_emits  eh12) (x_k hR 64 rfl) (by decide) rfl mf_X12_emits tw_1720 (by show 1 + 1 ≤ FR0 + 8; omega) (by show 8 + (4 + 11) + (20) ≤ LR0 + 206; omega) hl.1 (Nat.le_of_ble_eq_true rfl) dX12_readAtom_130 ⟨Nat.le_refl _, Nat.le_refl _⟩ (fun H locs hR hS => ?_)
        refine lv_iconst (v := 1) hx hb dX12_readAtom_133 rfl ?_
        cases hf
        exact x_zret C hR hS (Or.inr rfl) dX12_readAtom_134
    · have hf := x_in hc hf
      refine lv_aload_n hx hb dX12_readAtom_65 rfl (lv_at hl 0 rfl) ?_
      refine gf_12_9 C hR (x_k hR 64 rfl) tw_1552 dX12_readAtom_66 ?_
      refine lv_bipush (v := 6) hx hb dX12_readAtom_69 rfl ?_
      refine lv_icmp_ne (tgt := 76) hx hb dX12_readAtom_71 rfl (fun hc => ?_) (fun hc => ?_)
      · have hf := x_in hc hf
        refine lv_aload_n hx hb dX12_readAtom_76 rfl (lv_at hl 0 rfl) ?_
        refine lv_dup hx hb dX12_readAtom_77 rfl ?_
        refine gf_12_9 C hR (x_k hR 64 rfl) tw_1552 dX12_readAtom_78 ?_
        refine lv_iconst (v := 1) hx hb dX12_readAtom_81 rfl ?_
        refine lv_iadd hx hb dX12_readAtom_82 ?_
        obtain ⟨h13, eh13, hf⟩ := x_lt hf
        refine pf_12_9 C hR hS (x_k hR 64 rfl) tw_1552 dX12_readAtom_83 (fun H locs hR hS => ?_)
        rw [← eh13] at hR
        refine lv_aload_n hx hb dX12_readAtom_86 rfl (lv_at hl 0 rfl) ?_
        obtain ⟨q14, eq14, hf⟩ := x_bd hf
        refine x_cVi0 C hR hS (hrec  eq14) (x_k hR 64 rfl) (by decide) rfl mf_X12_readAtom tw_1715 (by show FR0 + 0 + 1 ≤ FR0 + 8; omega) (by show 8 + (3 + 11) + (LR0 + 0) ≤ LR0 + 206; omega) hl.1 (Nat.le_of_ble_eq_true rfl) dX12_readAtom_87 ⟨Nat.le_refl _, Nat.le_refl _⟩ (fun H locs hR hS => ?_)
        refine lv_if_ne (tgt := 95) hx hb dX12_readAtom_90 rfl (fun hc => ?_) (fun hc => ?_)
        · have hf := x_in hc hf
          refine lv_aload_n hx hb dX12_readAtom_95 rfl (lv_at hl 0 rfl) ?_
          refine lv_dup hx hb dX12_readAtom_96 rfl ?_
          refine gf_12_9 C hR (x_k hR 64 rfl) tw_1552 dX12_readAtom_97 ?_
          refine lv_iconst (v := 1) hx hb dX12_readAtom_100 rfl ?_
          refine lv_isub hx hb dX12_readAtom_101 ?_
          obtain ⟨h15, eh15, hf⟩ := x_lt hf
          refine pf_12_9 C hR hS (x_k hR 64 rfl) tw_1552 dX12_readAtom_102 (fun H locs hR hS => ?_)
          rw [← eh15] at hR
          refine lv_aload_n hx hb dX12_readAtom_105 rfl (lv_at hl 0 rfl) ?_
          refine lv_bipush (v := 14) hx hb dX12_readAtom_106 rfl ?_
          refine lv_iconst (v := 0) hx hb dX12_readAtom_108 rfl ?_
          obtain ⟨h16, eh16, hf⟩ := x_bd hf
          refine x_cVv2 C hR hS (S_X12_emits  eh16) (x_k hR 64 rfl) (by decide) rfl mf_X12_emits tw_1720 (by show 1 + 1 ≤ FR0 + 8; omega) (by show 8 + (4 + 11) + (20) ≤ LR0 + 206; omega) hl.1 (Nat.le_of_ble_eq_true rfl) dX12_readAtom_109 ⟨Nat.le_refl _, Nat.le_refl _⟩ (fun H locs hR hS => ?_)
          refine lv_iconst (v := 1) hx hb dX12_readAtom_112 rfl ?_
          cases hf
          exact x_zret C hR hS (Or.inr rfl) dX12_readAtom_113
        · have hf := x_ip hc hf
          refine lv_iconst (v := 0) hx hb dX12_readAtom_93 rfl ?_
          cases hf
          exact x_zret C hR hS (Or.inl rfl) dX12_readAtom_94
      · have hf := x_ip hc hf
        refine lv_iconst (v := 0) hx hb dX12_readAtom_74 rfl ?_
        cases hf
        exact x_zret C hR hS (Or.inl rfl) dX12_readAtom_75
  · have hf := x_in hc hf
    refine lv_aload_n hx hb dX12_readAtom_9 rfl (lv_at hl 0 rfl) ?_
    refine gf_12_9 C hR (x_k hR 64 rfl) tw_1552 dX12_readAtom_10 ?_
    refine lv_bipush (v := 6) hx hb dX12_readAtom_13 rfl ?_
    refine lv_icmp_ne (tgt := 20) hx hb dX12_readAtom_15 rfl (fun hc => ?_) (fun hc => ?_)
    · have hf := x_in hc hf
      refine lv_aload_n hx hb dX12_readAtom_20 rfl (lv_at hl 0 rfl) ?_
      refine lv_dup hx hb dX12_readAtom_21 rfl ?_
      refine gf_12_9 C hR (x_k hR 64 rfl) tw_1552 dX12_readAtom_22 ?_
      refine lv_iconst (v := 1) hx hb dX12_readAtom_25 rfl ?_
      refine lv_iadd hx hb dX12_readAtom_26 ?_
      obtain ⟨h17, eh17, hf⟩ := x_lt hf
      refine pf_12_9 C hR hS (x_k hR 64 rfl) tw_1552 dX12_readAtom_27 (fun H locs hR hS => ?_)
      rw [← eh17] at hR
      refine lv_aload_n hx hb dX12_readAtom_30 rfl (lv_at hl 0 rfl) ?_
      obtain ⟨q18, eq18, hf⟩ := x_bd hf
      refine x_cVi0 C hR hS (S_X12_readCond hrec  eq18) (x_k hR 64 rfl) (by decide) rfl mf_X12_readCond tw_1707 (by show FR0 + 7 + 1 ≤ FR0 + 8; omega) (by show 8 + (1 + 11) + (LR0 + 186) ≤ LR0 + 206; omega) hl.1 (Nat.le_of_ble_eq_true rfl) dX12_readAtom_31 ⟨Nat.le_refl _, Nat.le_refl _⟩ (fun H locs hR hS => ?_)
      refine lv_if_ne (tgt := 39) hx hb dX12_readAtom_34 rfl (fun hc => ?_) (fun hc => ?_)
      · have hf := x_in hc hf
        refine lv_aload_n hx hb dX12_readAtom_39 rfl (lv_at hl 0 rfl) ?_
        refine lv_dup hx hb dX12_readAtom_40 rfl ?_
        refine gf_12_9 C hR (x_k hR 64 rfl) tw_1552 dX12_readAtom_41 ?_
        refine lv_iconst (v := 1) hx hb dX12_readAtom_44 rfl ?_
        refine lv_isub hx hb dX12_readAtom_45 ?_
        obtain ⟨h19, eh19, hf⟩ := x_lt hf
        refine pf_12_9 C hR hS (x_k hR 64 rfl) tw_1552 dX12_readAtom_46 (fun H locs hR hS => ?_)
        rw [← eh19] at hR
        refine lv_aload_n hx hb dX12_readAtom_49 rfl (lv_at hl 0 rfl) ?_
        refine lv_bipush (v := 41) hx hb dX12_readAtom_50 rfl ?_
        obtain ⟨q20, eq20, hf⟩ := x_bd hf
        refine x_cVi1 C hR hS (S_X12_sign  eq20) (x_k hR 64 rfl) (by decide) rfl mf_X12_sign tw_1682 (by show 2 + 1 ≤ FR0 + 8; omega) (by show 8 + (2 + 11) + (42) ≤ LR0 + 206; omega) hl.1 (Nat.le_of_ble_eq_true rfl) dX12_readAtom_52 ⟨Nat.le_refl _, Nat.le_refl _⟩ (fun H locs hR hS => ?_)
        obtain ⟨g21, hf⟩ := x_gd hf
        cases hf
        exact x_zret C hR hS (x_isb_of g21) dX12_readAtom_55
      · have hf := x_ip hc hf
        refine lv_iconst (v := 0) hx hb dX12_readAtom_37 rfl ?_
        cases hf
        exact x_zret C hR hS (Or.inl rfl) dX12_readAtom_38
    · have hf := x_ip hc hf
      refine lv_iconst (v := 0) hx hb dX12_readAtom_18 rfl ?_
      cases hf
      exact x_zret C hR hS (Or.inl rfl) dX12_readAtom_19
theorem S_X12_readAtomR {l : Launch} {O : XO} {K : XK} : ∀ (d : Nat) {h : XH} {r : Int32} {h' : XH}, f_X12_readAtom (oX O) d h  = some (r, h') → x_M l O K yX12_readAtom cX12_readAtom 3 (some .boolean) (8 * d) (206 * d) h [.ref (oX O + 64)] (some (.int r)) h' := by
  intro d
  induction d with
  | zero =>
    intro h r h' hf
    rw [f_X12_readAtom] at hf
    cases hf
  | succ d ih =>
    intro h r h' hf
    rw [f_X12_readAtom] at hf
    exact S_X12_readAtomB (FR0 := 8 * d) (LR0 := 206 * d) ih hf
def f_X1_weigh_39 (K : XK) (x : Nat) : Nat → XH → Option Nat → Nat → Int32 → Int32 → Int32 → Option (XH)
  | 0, _, _, _, _, _, _ => none
  | n + 1, h, v1, v2, v4, v5, v6 => if v5 < v6 then some h else Option.bind (f_J7_fill_53178 K h (x + 53) 0) (fun h5 => Option.bind (f_X1_spread x 7 h5 v6 v4 0 0 0) (fun h6 => Option.bind (f_X1_takeIfBetter K x h6 v1 v2 v6) (fun h7 => f_X1_weigh_39 K x n h7 v1 v2 v4 v5 (v6 + 1))))
def f_X1_weigh (K : XK) (x : Nat) (h : XH) (v1 : Option Nat) (v2 : Nat) : Option (XH) := Option.bind (f_X2_lackCount v2 h) (fun v_1 => Option.bind (f_X2_blanks v2 h) (fun v_2 => x_let ((f_J9_min_7cf53 h (f_J9_min_7cf53 h v_2 v_1) 5) : Int32) (fun t3 => Option.bind (f_X1_findOwn x h v2 (f_J9_min_7cf53 h v_1 6) t3) (fun h4 => f_X1_weigh_39 K x x_FU h4 v1 v2 (f_J9_min_7cf53 h v_1 6) t3 0))))
set_option maxRecDepth 20000 in
theorem B_X1_weigh_39 {p : Program} {l : Launch} {e : Env} {s : State} {m : MethodId} {args : Array Value} {below : List Frame} {meth : Method} {c : Code} {O : XO} {K : XK} {h' : XH}   (C : x_C p s m args meth c O cX1_weigh 7 RX1 none)   : ∀ (n : Nat) (ls : Array Slot) (H : Heap) (locs : List Loc) (h : XH) (v1 : Option Nat) (v2 : Nat) (v4 : Int32) (v5 : Int32) (v6 : Int32) (kv1 : ∀ r, v1 = some r → K r = (11, 0)) (kv2 : K v2 = (3, 0)) (hl : lv_has ls 7 [(0, .ref (oX O + 51)), (1, va_rf v1), (2, .ref v2), (4, .int v4), (5, .int v5), (6, .int v6)]) (hR : x_R O K h H) (hS : va_S (oA O) s.heap H locs) (hf : f_X1_weigh_39 K (oX O) n h v1 v2 v4 v5 v6 = some h'), W p l e (x_rm 8 208) s m args below meth c H locs 0 0 (MQ below (x_Qc O K h' none) args s 0 0 (oA O)) (F0 m 39 ls []) := by
  have hx := C.1
  have hb := C.2.1
  intro n
  induction n with
  | zero =>
    intro ls H locs h v1 v2 v4 v5 v6 kv1 kv2 hl hR hS hf
    rw [f_X1_weigh_39] at hf
    cases hf
  | succ n ih =>
    intro ls H locs h v1 v2 v4 v5 v6 kv1 kv2 hl hR hS hf
    rw [f_X1_weigh_39] at hf
    refine lv_iload hx hb dX1_weigh_39 (lv_at hl 5 rfl) ?_
    refine lv_iload hx hb dX1_weigh_41 (lv_at hl 4 rfl) ?_
    refine lv_icmp_gt (tgt := 79) hx hb dX1_weigh_43 rfl (fun hc => ?_) (fun hc => ?_)
    · have hf := x_ip hc hf
      cases hf
      exact x_vret C hR hS dX1_weigh_79
    · have hf := x_in hc hf
      refine lv_aload_n hx hb dX1_weigh_46 rfl (lv_at hl 0 rfl) ?_
      refine gf_1_2 C hR (x_k hR 51 rfl) tw_424 dX1_weigh_47 ?_
      refine lv_iconst (v := 0) hx hb dX1_weigh_50 rfl ?_
      obtain ⟨h5, eh5, hf⟩ := x_bd hf
      refine x_cSv2 C hR hS (S_J7_fill_53178 (x_k1 (x_k hR 53 rfl)) eh5) mf_J7_fill_53178 tw_1330 (Nat.le_of_ble_eq_true rfl) (Nat.le_of_ble_eq_true rfl) hl.1 (Nat.le_of_ble_eq_true rfl) dX1_weigh_51 ⟨Nat.le_refl _, Nat.le_refl _⟩ (fun H locs hR hS => ?_)
      refine lv_aload_n hx hb dX1_weigh_54 rfl (lv_at hl 0 rfl) ?_
      refine lv_iload hx hb dX1_weigh_55 (lv_at hl 5 rfl) ?_
      refine lv_iload hx hb dX1_weigh_57 (lv_at hl 3 rfl) ?_
      refine lv_iconst (v := 0) hx hb dX1_weigh_59 rfl ?_
      refine lv_iconst (v := 0) hx hb dX1_weigh_60 rfl ?_
      refine lv_iconst (v := 0) hx hb dX1_weigh_61 rfl ?_
      obtain ⟨h6, eh6, hf⟩ := x_bd hf
      refine x_cVv5 C hR hS (S_X1_spreadR 7  eh6) (x_k hR 51 rfl) (by decide) rfl mf_X1_spread tw_1331 (Nat.le_of_ble_eq_true rfl) (Nat.le_of_ble_eq_true rfl) hl.1 (Nat.le_of_ble_eq_true rfl) dX1_weigh_62 ⟨Nat.le_refl _, Nat.le_refl _⟩ (fun H locs hR hS => ?_)
      refine lv_aload_n hx hb dX1_weigh_65 rfl (lv_at hl 0 rfl) ?_
      refine x_aloadq_n hx hb dX1_weigh_66 rfl (lv_at hl 1 rfl) ?_
      refine lv_aload_n hx hb dX1_weigh_67 rfl (lv_at hl 2 rfl) ?_
      refine lv_iload hx hb dX1_weigh_68 (lv_at hl 5 rfl) ?_
      obtain ⟨h7, eh7, hf⟩ := x_bd hf
      refine x_cVv3 C hR hS (S_X1_takeIfBetter kv1 kv2 eh7) (x_k hR 51 rfl) (by decide) rfl mf_X1_takeIfBetter tw_1335 (Nat.le_of_ble_eq_true rfl) (Nat.le_of_ble_eq_true rfl) hl.1 (Nat.le_of_ble_eq_true rfl) dX1_weigh_70 ⟨Nat.le_refl _, Nat.le_refl _⟩ (fun H locs hR hS => ?_)
      refine lv_iinc (k := 5) (v := _ + 1) (lv' := [(6, _), (0, _), (1, _), (2, _), (4, _), (5, _)]) hx hb dX1_weigh_73 hl rfl (x_inc 1 1 rfl _) (Nat.le_of_ble_eq_true rfl) rfl (fun ls hl => ?_)
      refine lv_goto (tgt := 39) hx hb dX1_weigh_76 rfl ?_
      exact ih ls _ _ h7 _ _ _ _ _ kv1 kv2 (lv_sub hl [1, 2, 3, 4, 5, 0] rfl) hR hS hf
set_option maxRecDepth 20000 in
theorem S_X1_weigh {l : Launch} {O : XO} {K : XK} {h : XH} {v1 : Option Nat} {v2 : Nat}  {h' : XH} (k1 : ∀ r, v1 = some r → K r = (11, 0)) (k2 : K v2 = (3, 0)) (hf : f_X1_weigh K (oX O) h v1 v2 = some h') : x_M l O K yX1_weigh cX1_weigh 7 none 8 208 h [.ref (oX O + 51), va_rf v1, .ref v2] none h' := by
  refine x_enter (by decide) (by cases v1 <;> exact Nat.le_of_ble_eq_true rfl) (fun p e s m args below meth c C hR ls hl => ?_)
  have hS : va_S (oA O) s.heap s.heap [] := va_S.rf
  have hx := C.1
  have hb := C.2.1
  have hl : lv_has ls 7 [(0, .ref (oX O + 51)), (1, va_rf v1), (2, .ref v2)] := by cases v1 <;> exact hl
  rw [f_X1_weigh] at hf
  refine lv_aload_n hx hb dX1_weigh_0 rfl (lv_at hl 2 rfl) ?_
  obtain ⟨v_1, ev_1, hf⟩ := x_bd hf
  refine x_cVi0 C hR hS (S_X2_lackCount k2 ev_1) k2 (by decide) rfl mf_X2_lackCount tw_1321 (Nat.le_of_ble_eq_true rfl) (Nat.le_of_ble_eq_true rfl) hl.1 (Nat.le_of_ble_eq_true rfl) dX1_weigh_1 ⟨Nat.le_refl _, Nat.le_refl _⟩ (fun H locs hR hS => ?_)
  refine lv_istore_n (lv' := [(3, _), (0, _), (1, _), (2, _)]) hx hb dX1_weigh_4 rfl hl (Nat.le_of_ble_eq_true rfl) rfl (fun ls hl => ?_)
  refine lv_iload_n hx hb dX1_weigh_5 rfl (lv_at hl 0 rfl) ?_
  refine lv_bipush (v := 6) hx hb dX1_weigh_6 rfl ?_
  refine x_cSi2 C hR hS (S_J9_min_7cf53  rfl) mf_J9_min_7cf53 tw_1322 (Nat.le_of_ble_eq_true rfl) (Nat.le_of_ble_eq_true rfl) hl.1 (Nat.le_of_ble_eq_true rfl) dX1_weigh_8 ⟨Nat.le_refl _, Nat.le_refl _⟩ (fun H locs hR hS => ?_)
  refine lv_istore (lv' := [(4, _), (3, _), (0, _), (1, _), (2, _)]) hx hb dX1_weigh_11 hl (Nat.le_of_ble_eq_true rfl) rfl (fun ls hl => ?_)
  refine lv_aload_n hx hb dX1_weigh_13 rfl (lv_at hl 4 rfl) ?_
  obtain ⟨v_2, ev_2, hf⟩ := x_bd hf
  refine x_cVi0 C hR hS (S_X2_blanks k2 ev_2) k2 (by decide) rfl mf_X2_blanks tw_1323 (Nat.le_of_ble_eq_true rfl) (Nat.le_of_ble_eq_true rfl) hl.1 (Nat.le_of_ble_eq_true rfl) dX1_weigh_14 ⟨Nat.le_refl _, Nat.le_refl _⟩ (fun H locs hR hS => ?_)
  refine lv_iload_n hx hb dX1_weigh_17 rfl (lv_at hl 1 rfl) ?_
  refine x_cSi2 C hR hS (S_J9_min_7cf53  rfl) mf_J9_min_7cf53 tw_1322 (Nat.le_of_ble_eq_true rfl) (Nat.le_of_ble_eq_true rfl) hl.1 (Nat.le_of_ble_eq_true rfl) dX1_weigh_18 ⟨Nat.le_refl _, Nat.le_refl _⟩ (fun H locs hR hS => ?_)
  refine lv_iconst (v := 5) hx hb dX1_weigh_21 rfl ?_
  refine x_cSi2 C hR hS (S_J9_min_7cf53  rfl) mf_J9_min_7cf53 tw_1322 (Nat.le_of_ble_eq_true rfl) (Nat.le_of_ble_eq_true rfl) hl.1 (Nat.le_of_ble_eq_true rfl) dX1_weigh_22 ⟨Nat.le_refl _, Nat.le_refl _⟩ (fun H locs hR hS => ?_)
  obtain ⟨t3, et3, hf⟩ := x_lt hf
  refine x_nmi et3 ?_
  refine lv_istore (lv' := [(5, _), (4, _), (3, _), (0, _), (1, _), (2, _)]) hx hb dX1_weigh_25 hl (Nat.le_of_ble_eq_true rfl) rfl (fun ls hl => ?_)
  refine lv_aload_n hx hb dX1_weigh_27 rfl (lv_at hl 3 rfl) ?_
  refine lv_aload_n hx hb dX1_weigh_28 rfl (lv_at hl 5 rfl) ?_
  refine lv_iload hx hb dX1_weigh_29 (lv_at hl 1 rfl) ?_
  refine lv_iload hx hb dX1_weigh_31 (lv_at hl 0 rfl) ?_
  obtain ⟨h4, eh4, hf⟩ := x_bd hf
  refine x_cVv3 C hR hS (S_X1_findOwn k2 eh4) (x_k hR 51 rfl) (by decide) rfl mf_X1_findOwn tw_1324 (Nat.le_of_ble_eq_true rfl) (Nat.le_of_ble_eq_true rfl) hl.1 (Nat.le_of_ble_eq_true rfl) dX1_weigh_33 ⟨Nat.le_refl _, Nat.le_refl _⟩ (fun H locs hR hS => ?_)
  refine lv_iconst (v := 0) hx hb dX1_weigh_36 rfl ?_
  refine lv_istore (lv' := [(6, _), (5, _), (4, _), (3, _), (0, _), (1, _), (2, _)]) hx hb dX1_weigh_37 hl (Nat.le_of_ble_eq_true rfl) rfl (fun ls hl => ?_)
  exact B_X1_weigh_39  C  x_FU ls _ _ h4 _ _ _ _ _ k1 k2 (lv_sub hl [4, 5, 6, 2, 1, 0] rfl) hR hS hf
def f_X3_search (x : Nat) (h : XH) : Option (XH) := Option.bind (f_X3_settle x 7 h 0 0 0) (fun h1 => some h1)
set_option maxRecDepth 20000 in
theorem S_X3_search {l : Launch} {O : XO} {K : XK} {h : XH}  {h' : XH}  (hf : f_X3_search (oX O) h = some h') : x_M l O K yX3_search cX3_search 1 none 8 725 h [.ref (oX O + 54)] none h' := by
  refine x_enter (by decide) (Nat.le_of_ble_eq_true rfl) (fun p e s m args below meth c C hR ls hl => ?_)
  have hS : va_S (oA O) s.heap s.heap [] := va_S.rf
  have hx := C.1
  have hb := C.2.1
  have hl : lv_has ls 1 [(0, .ref (oX O + 54))] := hl
  rw [f_X3_search] at hf
  refine lv_aload_n hx hb dX3_search_0 rfl (lv_at hl 0 rfl) ?_
  refine lv_iconst (v := 0) hx hb dX3_search_1 rfl ?_
  refine lv_iconst (v := 0) hx hb dX3_search_2 rfl ?_
  refine lv_iconst (v := 0) hx hb dX3_search_3 rfl ?_
  obtain ⟨h1, eh1, hf⟩ := x_bd hf
  refine x_cVv3 C hR hS (S_X3_settleR 7  eh1) (x_k hR 54 rfl) (by decide) rfl mf_X3_settle tw_1437 (Nat.le_of_ble_eq_true rfl) (Nat.le_of_ble_eq_true rfl) hl.1 (Nat.le_of_ble_eq_true rfl) dX3_search_4 ⟨Nat.le_refl _, Nat.le_refl _⟩ (fun H locs hR hS => ?_)
  cases hf
  exact x_vret C hR hS dX3_search_7
def f_X8_readLine_44 (x : Nat) (h : XH) : Option (Int32 × XH) := some (0, h)
def f_X8_readLine_111 (x : Nat) (h : XH) (v1 : Int32) (v2 : Int32) (v3 : Int32) : Option (Int32 × XH) := if x_b (h.1 (x + 1) 10) 10 = true then x_let (x_i h (x + 5) (h.1 (x + 1) 10).toNatClampNeg (if v1 = 0 then (-v2) else v2)) (fun h8 => if x_b (h8.1 (x + 1) 10) 10 = true then x_let (x_i h8 (x + 6) (h8.1 (x + 1) 10).toNatClampNeg v3) (fun h10 => if x_b (h10.1 (x + 1) 10) 10 = true then x_let (x_i h10 (x + 7) (h10.1 (x + 1) 10).toNatClampNeg (h10.1 (x + 1) 11)) (fun h12 => x_let (x_i h12 (x + 1) 10 ((h12.1 (x + 1) 10) + 1)) (fun h13 => some (1, h13))) else none) else none) else none
def f_X8_readLine_91 (x : Nat) (h : XH) (v1 : Int32) (v2 : Int32) (v3 : Int32) : Option (Int32 × XH) := Option.bind (f_X8_take x h 1042) (fun q5 => if q5.1 = 0 then f_X8_readLine_111 x q5.2 v1 v2 v3 else Option.bind (f_X8_readEither (f_X8_readAtom x 8) x q5.2 0) (fun q14 => if q14.1 = 0 then some (0, q14.2) else f_X8_readLine_111 x q14.2 v1 v2 v3))
def f_X8_readLine_89 (x : Nat) (h : XH) : Option (Int32 × XH) := some (0, h)
def f_X8_readLine_24 (x : Nat) (h : XH) (v1 : Int32) : Option (Int32 × XH) := Option.bind (f_X8_here x h) (fun v_2 => if 1000 ≤ v_2 then f_X8_readLine_44 x h else Option.bind (f_X8_take x h v_2) (fun q3 => if q3.1 = 0 then f_X8_readLine_44 x q3.2 else Option.bind (f_X8_take x q3.2 1142) (fun q4 => if q4.1 = 0 then f_X8_readLine_91 x q4.2 v1 v_2 (-1) else Option.bind (f_X8_here x q4.2) (fun v_15 => if (v_15 - 1000) < 0 then f_X8_readLine_89 x q4.2 else if 20 ≤ (v_15 - 1000) then f_X8_readLine_89 x q4.2 else Option.bind (f_X8_take x q4.2 ((v_15 - 1000) + 1000)) (fun q16 => if q16.1 = 0 then f_X8_readLine_89 x q16.2 else f_X8_readLine_91 x q16.2 v1 v_2 (v_15 - 1000))))))
def f_X8_readLine (x : Nat) (h : XH) : Option (Int32 × XH) := Option.bind (f_X8_take x h 1040) (fun q1 => if q1.1 = 0 then Option.bind (f_X8_take x q1.2 1041) (fun q17 => if q17.1 = 0 then some (0, q17.2) else f_X8_readLine_24 x q17.2 q1.1) else f_X8_readLine_24 x q1.2 q1.1)
set_option maxRecDepth 20000 in
theorem B_X8_readLine_44 {p : Program} {l : Launch} {e : Env} {s : State} {m : MethodId} {args : Array Value} {below : List Frame} {meth : Method} {c : Code} {O : XO} {K : XK} {r : Int32} {h' : XH}   (C : x_C p s m args meth c O cX8_readLine 4 RX8 (some .boolean))   (ls : Array Slot) (H : Heap) (locs : List Loc) (h : XH) (hl : lv_has ls 4 []) (hR : x_R O K h H) (hS : va_S (oA O) s.heap H locs) (hf : f_X8_readLine_44 (oX O) h = some (r, h')) : W p l e (x_rm 27 603) s m args below meth c H locs 0 0 (MQ below (x_Qc O K h' (some (.int r))) args s 0 0 (oA O)) (F0 m 44 ls []) := by
  have hx := C.1
  have hb := C.2.1
  rw [f_X8_readLine_44] at hf
  refine lv_iconst (v := 0) hx hb dX8_readLine_44 rfl ?_
  cases hf
  exact x_zret C hR hS (Or.inl rfl) dX8_readLine_45
set_option maxRecDepth 20000 in
theorem B_X8_readLine_111 {p : Program} {l : Launch} {e : Env} {s : State} {m : MethodId} {args : Array Value} {below : List Frame} {meth : Method} {c : Code} {O : XO} {K : XK} {r : Int32} {h' : XH}   (C : x_C p s m args meth c O cX8_readLine 4 RX8 (some .boolean))   (ls : Array Slot) (H : Heap) (locs : List Loc) (h : XH) (v1 : Int32) (v2 : Int32) (v3 : Int32) (hl : lv_has ls 4 [(0, .ref (oX O + 1)), (1, .int v1), (2, .int v2), (3, .int v3)]) (hR : x_R O K h H) (hS : va_S (oA O) s.heap H locs) (hf : f_X8_readLine_111 (oX O) h v1 v2 v3 = some (r, h')) : W p l e (x_rm 27 603) s m args below meth c H locs 0 0 (MQ below (x_Qc O K h' (some (.int r))) args s 0 0 (oA O)) (F0 m 111 ls []) := by
  have hx := C.1
  have hb := C.2.1
  rw [f_X8_readLine_111] at hf
  refine lv_aload_n hx hb dX8_readLine_111 rfl (lv_at hl 0 rfl) ?_
  refine gf_8_4 C hR (x_k hR 1 rfl) tw_154 dX8_readLine_112 ?_
  refine lv_aload_n hx hb dX8_readLine_115 rfl (lv_at hl 0 rfl) ?_
  refine gf_8_10 C hR (x_k hR 1 rfl) tw_161 dX8_readLine_116 ?_
  refine lv_iload_n hx hb dX8_readLine_119 rfl (lv_at hl 1 rfl) ?_
  have kM6 : ∀ (ls : Array Slot) (H : Heap) (locs : List Loc), lv_has ls 4 [(0, .ref (oX O + 1)), (3, .int v3)] → x_R O K h H → va_S (oA O) s.heap H locs → W p l e (x_rm 27 603) s m args below meth c H locs 0 0 (MQ below (x_Qc O K h' (some (.int r))) args s 0 0 (oA O)) (F0 m 129 ls [.int (if v1 = 0 then (-v2) else v2), .int (h.1 (oX O + 1) 10), .ref (oX O + 5)]) := by
    intro ls H locs hl hR hS
    obtain ⟨g7, hf⟩ := x_gd hf
    obtain ⟨h8, eh8, hf⟩ := x_lt hf
    refine x_iast C hR hS (x_k1 (x_k hR 5 rfl)) (x_k2 (x_k hR 5 rfl) g7) dX8_readLine_129 (fun H locs hR hS => ?_)
    rw [← eh8] at hR
    refine lv_aload_n hx hb dX8_readLine_130 rfl (lv_at hl 0 rfl) ?_
    refine gf_8_5 C hR (x_k hR 1 rfl) tw_155 dX8_readLine_131 ?_
    refine lv_aload_n hx hb dX8_readLine_134 rfl (lv_at hl 0 rfl) ?_
    refine gf_8_10 C hR (x_k hR 1 rfl) tw_161 dX8_readLine_135 ?_
    refine lv_iload_n hx hb dX8_readLine_138 rfl (lv_at hl 1 rfl) ?_
    obtain ⟨g9, hf⟩ := x_gd hf
    obtain ⟨h10, eh10, hf⟩ := x_lt hf
    refine x_iast C hR hS (x_k1 (x_k hR 6 rfl)) (x_k2 (x_k hR 6 rfl) g9) dX8_readLine_139 (fun H locs hR hS => ?_)
    rw [← eh10] at hR
    refine lv_aload_n hx hb dX8_readLine_140 rfl (lv_at hl 0 rfl) ?_
    refine gf_8_6 C hR (x_k hR 1 rfl) tw_156 dX8_readLine_141 ?_
    refine lv_aload_n hx hb dX8_readLine_144 rfl (lv_at hl 0 rfl) ?_
    refine gf_8_10 C hR (x_k hR 1 rfl) tw_161 dX8_readLine_145 ?_
    refine lv_aload_n hx hb dX8_readLine_148 rfl (lv_at hl 0 rfl) ?_
    refine gf_8_11 C hR (x_k hR 1 rfl) tw_162 dX8_readLine_149 ?_
    obtain ⟨g11, hf⟩ := x_gd hf
    obtain ⟨h12, eh12, hf⟩ := x_lt hf
    refine x_iast C hR hS (x_k1 (x_k hR 7 rfl)) (x_k2 (x_k hR 7 rfl) g11) dX8_readLine_152 (fun H locs hR hS => ?_)
    rw [← eh12] at hR
    refine lv_aload_n hx hb dX8_readLine_153 rfl (lv_at hl 0 rfl) ?_
    refine lv_dup hx hb dX8_readLine_154 rfl ?_
    refine gf_8_10 C hR (x_k hR 1 rfl) tw_161 dX8_readLine_155 ?_
    refine lv_iconst (v := 1) hx hb dX8_readLine_158 rfl ?_
    refine lv_iadd hx hb dX8_readLine_159 ?_
    obtain ⟨h13, eh13, hf⟩ := x_lt hf
    refine pf_8_10 C hR hS (x_k hR 1 rfl) tw_161 dX8_readLine_160 (fun H locs hR hS => ?_)
    rw [← eh13] at hR
    refine lv_iconst (v := 1) hx hb dX8_readLine_163 rfl ?_
    cases hf
    exact x_zret C hR hS (Or.inr rfl) dX8_readLine_164
  refine lv_if_eq (tgt := 127) hx hb dX8_readLine_120 rfl (fun hc => ?_) (fun hc => ?_)
  · try simp only [if_pos hc] at kM6
    refine lv_iload_n hx hb dX8_readLine_127 rfl (lv_at hl 2 rfl) ?_
    refine lv_ineg hx hb dX8_readLine_128 ?_
    exact kM6 ls _ _ (lv_sub hl [0, 3] rfl) hR hS
  · try simp only [if_neg hc] at kM6
    refine lv_iload_n hx hb dX8_readLine_123 rfl (lv_at hl 2 rfl) ?_
    refine lv_goto (tgt := 129) hx hb dX8_readLine_124 rfl ?_
    exact kM6 ls _ _ (lv_sub hl [0, 3] rfl) hR hS
set_option maxRecDepth 20000 in
theorem B_X8_readLine_91 {p : Program} {l : Launch} {e : Env} {s : State} {m : MethodId} {args : Array Value} {below : List Frame} {meth : Method} {c : Code} {O : XO} {K : XK} {r : Int32} {h' : XH}   (C : x_C p s m args meth c O cX8_readLine 4 RX8 (some .boolean))   (ls : Array Slot) (H : Heap) (locs : List Loc) (h : XH) (v1 : Int32) (v2 : Int32) (v3 : Int32) (hl : lv_has ls 4 [(0, .ref (oX O + 1)), (1, .int v1), (2, .int v2), (3, .int v3)]) (hR : x_R O K h H) (hS : va_S (oA O) s.heap H locs) (hf : f_X8_readLine_91 (oX O) h v1 v2 v3 = some (r, h')) : W p l e (x_rm 27 603) s m args below meth c H locs 0 0 (MQ below (x_Qc O K h' (some (.int r))) args s 0 0 (oA O)) (F0 m 91 ls []) := by
  have hx := C.1
  have hb := C.2.1
  rw [f_X8_readLine_91] at hf
  refine lv_aload_n hx hb dX8_readLine_91 rfl (lv_at hl 0 rfl) ?_
  refine lv_sipush (v := 1042) hx hb dX8_readLine_92 rfl ?_
  obtain ⟨q5, eq5, hf⟩ := x_bd hf
  refine x_cVi1 C hR hS (S_X8_take  eq5) (x_k hR 1 rfl) (by decide) rfl mf_X8_take tw_719 (Nat.le_of_ble_eq_true rfl) (Nat.le_of_ble_eq_true rfl) hl.1 (Nat.le_of_ble_eq_true rfl) dX8_readLine_95 ⟨Nat.le_refl _, Nat.le_refl _⟩ (fun H locs hR hS => ?_)
  refine lv_if_eq (tgt := 111) hx hb dX8_readLine_98 rfl (fun hc => ?_) (fun hc => ?_)
  · have hf := x_ip hc hf
    exact B_X8_readLine_111  C   ls _ _ q5.2 _ _ _  (lv_sub hl [0, 1, 2, 3] rfl) hR hS hf
  · have hf := x_in hc hf
    refine lv_aload_n hx hb dX8_readLine_101 rfl (lv_at hl 0 rfl) ?_
    refine lv_iconst (v := 0) hx hb dX8_readLine_102 rfl ?_
    obtain ⟨q14, eq14, hf⟩ := x_bd hf
    refine x_cVi1 C hR hS (S_X8_readEither (FR0 := 3 * 8) (LR0 := 67 * 8) (S_X8_readAtomR 8)  eq14) (x_k hR 1 rfl) (by decide) rfl mf_X8_readEither tw_723 (Nat.le_of_ble_eq_true rfl) (Nat.le_of_ble_eq_true rfl) hl.1 (Nat.le_of_ble_eq_true rfl) dX8_readLine_103 ⟨Nat.le_refl _, Nat.le_refl _⟩ (fun H locs hR hS => ?_)
    refine lv_if_ne (tgt := 111) hx hb dX8_readLine_106 rfl (fun hc => ?_) (fun hc => ?_)
    · have hf := x_in hc hf
      exact B_X8_readLine_111  C   ls _ _ q14.2 _ _ _  (lv_sub hl [0, 1, 2, 3] rfl) hR hS hf
    · have hf := x_ip hc hf
      refine lv_iconst (v := 0) hx hb dX8_readLine_109 rfl ?_
      cases hf
      exact x_zret C hR hS (Or.inl rfl) dX8_readLine_110
set_option maxRecDepth 20000 in
theorem B_X8_readLine_89 {p : Program} {l : Launch} {e : Env} {s : State} {m : MethodId} {args : Array Value} {below : List Frame} {meth : Method} {c : Code} {O : XO} {K : XK} {r : Int32} {h' : XH}   (C : x_C p s m args meth c O cX8_readLine 4 RX8 (some .boolean))   (ls : Array Slot) (H : Heap) (locs : List Loc) (h : XH) (hl : lv_has ls 4 []) (hR : x_R O K h H) (hS : va_S (oA O) s.heap H locs) (hf : f_X8_readLine_89 (oX O) h = some (r, h')) : W p l e (x_rm 27 603) s m args below meth c H locs 0 0 (MQ below (x_Qc O K h' (some (.int r))) args s 0 0 (oA O)) (F0 m 89 ls []) := by
  have hx := C.1
  have hb := C.2.1
  rw [f_X8_readLine_89] at hf
  refine lv_iconst (v := 0) hx hb dX8_readLine_89 rfl ?_
  cases hf
  exact x_zret C hR hS (Or.inl rfl) dX8_readLine_90
set_option maxRecDepth 20000 in
theorem B_X8_readLine_24 {p : Program} {l : Launch} {e : Env} {s : State} {m : MethodId} {args : Array Value} {below : List Frame} {meth : Method} {c : Code} {O : XO} {K : XK} {r : Int32} {h' : XH}   (C : x_C p s m args meth c O cX8_readLine 4 RX8 (some .boolean))   (ls : Array Slot) (H : Heap) (locs : List Loc) (h : XH) (v1 : Int32) (hl : lv_has ls 4 [(0, .ref (oX O + 1)), (1, .int v1)]) (hR : x_R O K h H) (hS : va_S (oA O) s.heap H locs) (hf : f_X8_readLine_24 (oX O) h v1 = some (r, h')) : W p l e (x_rm 27 603) s m args below meth c H locs 0 0 (MQ below (x_Qc O K h' (some (.int r))) args s 0 0 (oA O)) (F0 m 24 ls []) := by
  have hx := C.1
  have hb := C.2.1
  rw [f_X8_readLine_24] at hf
  refine lv_aload_n hx hb dX8_readLine_24 rfl (lv_at hl 0 rfl) ?_
  obtain ⟨v_2, ev_2, hf⟩ := x_bd hf
  refine x_cVi0 C hR hS (S_X8_here  ev_2) (x_k hR 1 rfl) (by decide) rfl mf_X8_here tw_711 (Nat.le_of_ble_eq_true rfl) (Nat.le_of_ble_eq_true rfl) hl.1 (Nat.le_of_ble_eq_true rfl) dX8_readLine_25 ⟨Nat.le_refl _, Nat.le_refl _⟩ (fun H locs hR hS => ?_)
  refine lv_istore_n (lv' := [(2, _), (0, _), (1, _)]) hx hb dX8_readLine_28 rfl hl (Nat.le_of_ble_eq_true rfl) rfl (fun ls hl => ?_)
  refine lv_iload_n hx hb dX8_readLine_29 rfl (lv_at hl 0 rfl) ?_
  refine lv_sipush (v := 1000) hx hb dX8_readLine_30 rfl ?_
  refine lv_icmp_ge (tgt := 44) hx hb dX8_readLine_33 rfl (fun hc => ?_) (fun hc => ?_)
  · have hf := x_ip hc hf
    exact B_X8_readLine_44  C   ls _ _ h  (lv_sub hl [] rfl) hR hS hf
  · have hf := x_in hc hf
    refine lv_aload_n hx hb dX8_readLine_36 rfl (lv_at hl 1 rfl) ?_
    refine lv_iload_n hx hb dX8_readLine_37 rfl (lv_at hl 0 rfl) ?_
    obtain ⟨q3, eq3, hf⟩ := x_bd hf
    refine x_cVi1 C hR hS (S_X8_take  eq3) (x_k hR 1 rfl) (by decide) rfl mf_X8_take tw_719 (Nat.le_of_ble_eq_true rfl) (Nat.le_of_ble_eq_true rfl) hl.1 (Nat.le_of_ble_eq_true rfl) dX8_readLine_38 ⟨Nat.le_refl _, Nat.le_refl _⟩ (fun H locs hR hS => ?_)
    refine lv_if_ne (tgt := 46) hx hb dX8_readLine_41 rfl (fun hc => ?_) (fun hc => ?_)
    · have hf := x_in hc hf
      refine lv_iconst (v := (-1)) hx hb dX8_readLine_46 rfl ?_
      refine lv_istore_n (lv' := [(3, _), (2, _), (0, _), (1, _)]) hx hb dX8_readLine_47 rfl hl (Nat.le_of_ble_eq_true rfl) rfl (fun ls hl => ?_)
      refine lv_aload_n hx hb dX8_readLine_48 rfl (lv_at hl 2 rfl) ?_
      refine lv_sipush (v := 1142) hx hb dX8_readLine_49 rfl ?_
      obtain ⟨q4, eq4, hf⟩ := x_bd hf
      refine x_cVi1 C hR hS (S_X8_take  eq4) (x_k hR 1 rfl) (by decide) rfl mf_X8_take tw_719 (Nat.le_of_ble_eq_true rfl) (Nat.le_of_ble_eq_true rfl) hl.1 (Nat.le_of_ble_eq_true rfl) dX8_readLine_52 ⟨Nat.le_refl _, Nat.le_refl _⟩ (fun H locs hR hS => ?_)
      refine lv_if_eq (tgt := 91) hx hb dX8_readLine_55 rfl (fun hc => ?_) (fun hc => ?_)
      · have hf := x_ip hc hf
        exact B_X8_readLine_91  C   ls _ _ q4.2 _ _ _  (lv_sub hl [2, 3, 1, 0] rfl) hR hS hf
      · have hf := x_in hc hf
        refine lv_aload_n hx hb dX8_readLine_58 rfl (lv_at hl 2 rfl) ?_
        obtain ⟨v_15, ev_15, hf⟩ := x_bd hf
        refine x_cVi0 C hR hS (S_X8_here  ev_15) (x_k hR 1 rfl) (by decide) rfl mf_X8_here tw_711 (Nat.le_of_ble_eq_true rfl) (Nat.le_of_ble_eq_true rfl) hl.1 (Nat.le_of_ble_eq_true rfl) dX8_readLine_59 ⟨Nat.le_refl _, Nat.le_refl _⟩ (fun H locs hR hS => ?_)
        refine lv_sipush (v := 1000) hx hb dX8_readLine_62 rfl ?_
        refine lv_isub hx hb dX8_readLine_65 ?_
        refine lv_istore_n (lv' := [(3, _), (2, _), (0, _), (1, _)]) hx hb dX8_readLine_66 rfl hl (Nat.le_of_ble_eq_true rfl) rfl (fun ls hl => ?_)
        refine lv_iload_n hx hb dX8_readLine_67 rfl (lv_at hl 0 rfl) ?_
        refine lv_if_lt (tgt := 89) hx hb dX8_readLine_68 rfl (fun hc => ?_) (fun hc => ?_)
        · have hf := x_ip hc hf
          exact B_X8_readLine_89  C   ls _ _ q4.2  (lv_sub hl [] rfl) hR hS hf
        · have hf := x_in hc hf
          refine lv_iload_n hx hb dX8_readLine_71 rfl (lv_at hl 0 rfl) ?_
          refine lv_bipush (v := 20) hx hb dX8_readLine_72 rfl ?_
          refine lv_icmp_ge (tgt := 89) hx hb dX8_readLine_74 rfl (fun hc => ?_) (fun hc => ?_)
          · have hf := x_ip hc hf
            exact B_X8_readLine_89  C   ls _ _ q4.2  (lv_sub hl [] rfl) hR hS hf
          · have hf := x_in hc hf
            refine lv_aload_n hx hb dX8_readLine_77 rfl (lv_at hl 2 rfl) ?_
            refine lv_iload_n hx hb dX8_readLine_78 rfl (lv_at hl 0 rfl) ?_
            refine lv_sipush (v := 1000) hx hb dX8_readLine_79 rfl ?_
            refine lv_iadd hx hb dX8_readLine_82 ?_
            obtain ⟨q16, eq16, hf⟩ := x_bd hf
            refine x_cVi1 C hR hS (S_X8_take  eq16) (x_k hR 1 rfl) (by decide) rfl mf_X8_take tw_719 (Nat.le_of_ble_eq_true rfl) (Nat.le_of_ble_eq_true rfl) hl.1 (Nat.le_of_ble_eq_true rfl) dX8_readLine_83 ⟨Nat.le_refl _, Nat.le_refl _⟩ (fun H locs hR hS => ?_)
            refine lv_if_ne (tgt := 91) hx hb dX8_readLine_86 rfl (fun hc => ?_) (fun hc => ?_)
            · have hf := x_in hc hf
              exact B_X8_readLine_91  C   ls _ _ q16.2 _ _ _  (lv_sub hl [2, 3, 1, 0] rfl) hR hS hf
            · have hf := x_ip hc hf
              exact B_X8_readLine_89  C   ls _ _ q16.2  (lv_sub hl [] rfl) hR hS hf
    · have hf := x_ip hc hf
      exact B_X8_readLine_44  C   ls _ _ q3.2  (lv_sub hl [] rfl) hR hS hf
set_option maxRecDepth 20000 in
theorem S_X8_readLine {l : Launch} {O : XO} {K : XK} {h : XH}  {r : Int32} {h' : XH}  (hf : f_X8_readLine (oX O) h = some (r, h')) : x_M l O K yX8_readLine cX8_readLine 4 (some .boolean) 27 603 h [.ref (oX O + 1)] (some (.int r)) h' := by
  refine x_enter (by decide) (Nat.le_of_ble_eq_true rfl) (fun p e s m args below meth c C hR ls hl => ?_)
  have hS : va_S (oA O) s.heap s.heap [] := va_S.rf
  have hx := C.1
  have hb := C.2.1
  have hl : lv_has ls 4 [(0, .ref (oX O + 1))] := hl
  rw [f_X8_readLine] at hf
  refine lv_aload_n hx hb dX8_readLine_0 rfl (lv_at hl 0 rfl) ?_
  refine lv_sipush (v := 1040) hx hb dX8_readLine_1 rfl ?_
  obtain ⟨q1, eq1, hf⟩ := x_bd hf
  refine x_cVi1 C hR hS (S_X8_take  eq1) (x_k hR 1 rfl) (by decide) rfl mf_X8_take tw_719 (Nat.le_of_ble_eq_true rfl) (Nat.le_of_ble_eq_true rfl) hl.1 (Nat.le_of_ble_eq_true rfl) dX8_readLine_4 ⟨Nat.le_refl _, Nat.le_refl _⟩ (fun H locs hR hS => ?_)
  refine lv_istore_n (lv' := [(1, _), (0, _)]) hx hb dX8_readLine_7 rfl hl (Nat.le_of_ble_eq_true rfl) rfl (fun ls hl => ?_)
  refine lv_iload_n hx hb dX8_readLine_8 rfl (lv_at hl 0 rfl) ?_
  refine lv_if_ne (tgt := 24) hx hb dX8_readLine_9 rfl (fun hc => ?_) (fun hc => ?_)
  · have hf := x_in hc hf
    exact B_X8_readLine_24  C   ls _ _ q1.2 _  (lv_sub hl [1, 0] rfl) hR hS hf
  · have hf := x_ip hc hf
    refine lv_aload_n hx hb dX8_readLine_12 rfl (lv_at hl 1 rfl) ?_
    refine lv_sipush (v := 1041) hx hb dX8_readLine_13 rfl ?_
    obtain ⟨q17, eq17, hf⟩ := x_bd hf
    refine x_cVi1 C hR hS (S_X8_take  eq17) (x_k hR 1 rfl) (by decide) rfl mf_X8_take tw_719 (Nat.le_of_ble_eq_true rfl) (Nat.le_of_ble_eq_true rfl) hl.1 (Nat.le_of_ble_eq_true rfl) dX8_readLine_16 ⟨Nat.le_refl _, Nat.le_refl _⟩ (fun H locs hR hS => ?_)
    refine lv_if_ne (tgt := 24) hx hb dX8_readLine_19 rfl (fun hc => ?_) (fun hc => ?_)
    · have hf := x_in hc hf
      exact B_X8_readLine_24  C   ls _ _ q17.2 _  (lv_sub hl [1, 0] rfl) hR hS hf
    · have hf := x_ip hc hf
      refine lv_iconst (v := 0) hx hb dX8_readLine_22 rfl ?_
      cases hf
      exact x_zret C hR hS (Or.inl rfl) dX8_readLine_23
def f_X12_readLine_170 (x : Nat) (h : XH) (v2 : Int32) : Option (Int32 × XH) := if x_b (v2 + 4) 6927 = true then x_let (x_i h (x + 65) (v2 + 4).toNatClampNeg (h.1 (x + 64) 12)) (fun h20 => some (1, h20)) else none
def f_X12_readLine_135 (x : Nat) (h : XH) (v2 : Int32) : Option (Int32 × XH) := if x_b (v2 + 3) 6927 = true then x_let (x_i h (x + 65) (v2 + 3).toNatClampNeg (h.1 (x + 64) 12)) (fun h16 => x_let (x_i h16 (x + 64) 9 0) (fun h17 => Option.bind (f_X12_passes x h17 64) (fun q18 => if q18.1 = 0 then f_X12_readLine_170 x q18.2 v2 else Option.bind (f_X12_readCond (f_X12_readAtom x 8) x q18.2) (fun q21 => if q21.1 = 0 then some (0, q21.2) else f_X12_readLine_170 x q21.2 v2)))) else none
def f_X12_readLine_51 (x : Nat) (h : XH) (v2 : Int32) (s1 : Int32) (s2 : Int32) : Option (Int32 × XH) := if x_b s1 6927 = true then x_let (x_i h (x + 65) s1.toNatClampNeg s2) (fun h6 => if x_b v2 6927 = true then if 0 ≤ (h6.1 (x + 65) v2.toNatClampNeg) then Option.bind (f_X12_number x h6) (fun q8 => if x_b (v2 + 1) 6927 = true then x_let (x_i q8.2 (x + 65) (v2 + 1).toNatClampNeg q8.1) (fun h10 => if x_b (v2 + 1) 6927 = true then if 0 ≤ (h10.1 (x + 65) (v2 + 1).toNatClampNeg) then if x_b (v2 + 2) 6927 = true then x_let (x_i h10 (x + 65) (v2 + 2).toNatClampNeg (-1)) (fun h13 => Option.bind (f_X12_sign x h13 42) (fun q14 => if q14.1 = 0 then f_X12_readLine_135 x q14.2 v2 else Option.bind (f_X12_letters x q14.2) (fun h22 => Option.bind (f_X12_factAt x h22) (fun v_23 => if x_b (v2 + 2) 6927 = true then x_let (x_i h22 (x + 65) (v2 + 2).toNatClampNeg v_23) (fun h25 => if x_b (v2 + 2) 6927 = true then if 0 ≤ (h25.1 (x + 65) (v2 + 2).toNatClampNeg) then f_X12_readLine_135 x h25 v2 else some (0, h25) else none) else none)))) else none else some (0, h10) else none) else none) else some (0, h6) else none) else none
def f_X12_readLine (x : Nat) (h : XH) (v1 : Int32) : Option (Int32 × XH) := Option.bind (f_X12_letters x h) (fun h1 => if v1 = 10 then some (0, h1) else Option.bind (f_X12_isWord x h1 50) (fun v_2 => if v_2 = 0 then Option.bind (f_X12_isWord x h1 51) (fun v_3 => f_X12_readLine_51 x h1 (f_X12_lineAt h1 6 v1) (f_X12_lineAt h1 6 v1) (if v_3 = 0 then (-1) else 1)) else f_X12_readLine_51 x h1 (f_X12_lineAt h1 6 v1) (f_X12_lineAt h1 6 v1) 0))
set_option maxRecDepth 20000 in
theorem B_X12_readLine_170 {p : Program} {l : Launch} {e : Env} {s : State} {m : MethodId} {args : Array Value} {below : List Frame} {meth : Method} {c : Code} {O : XO} {K : XK} {r : Int32} {h' : XH}   (C : x_C p s m args meth c O cX12_readLine 3 RX12 (some .boolean))   (ls : Array Slot) (H : Heap) (locs : List Loc) (h : XH) (v2 : Int32) (hl : lv_has ls 3 [(0, .ref (oX O + 64)), (2, .int v2)]) (hR : x_R O K h H) (hS : va_S (oA O) s.heap H locs) (hf : f_X12_readLine_170 (oX O) h v2 = some (r, h')) : W p l e (x_rm 72 1854) s m args below meth c H locs 0 0 (MQ below (x_Qc O K h' (some (.int r))) args s 0 0 (oA O)) (F0 m 170 ls []) := by
  have hx := C.1
  have hb := C.2.1
  rw [f_X12_readLine_170] at hf
  refine lv_aload_n hx hb dX12_readLine_170 rfl (lv_at hl 0 rfl) ?_
  refine gf_12_1 C hR (x_k hR 64 rfl) tw_1544 dX12_readLine_171 ?_
  refine lv_iload_n hx hb dX12_readLine_174 rfl (lv_at hl 1 rfl) ?_
  refine lv_iconst (v := 4) hx hb dX12_readLine_175 rfl ?_
  refine lv_iadd hx hb dX12_readLine_176 ?_
  refine lv_aload_n hx hb dX12_readLine_177 rfl (lv_at hl 0 rfl) ?_
  refine gf_12_12 C hR (x_k hR 64 rfl) tw_1555 dX12_readLine_178 ?_
  obtain ⟨g19, hf⟩ := x_gd hf
  obtain ⟨h20, eh20, hf⟩ := x_lt hf
  refine x_iast C hR hS (x_k1 (x_k hR 65 rfl)) (x_k2 (x_k hR 65 rfl) g19) dX12_readLine_181 (fun H locs hR hS => ?_)
  rw [← eh20] at hR
  refine lv_iconst (v := 1) hx hb dX12_readLine_182 rfl ?_
  cases hf
  exact x_zret C hR hS (Or.inr rfl) dX12_readLine_183
set_option maxRecDepth 20000 in
theorem B_X12_readLine_135 {p : Program} {l : Launch} {e : Env} {s : State} {m : MethodId} {args : Array Value} {below : List Frame} {meth : Method} {c : Code} {O : XO} {K : XK} {r : Int32} {h' : XH}   (C : x_C p s m args meth c O cX12_readLine 3 RX12 (some .boolean))   (ls : Array Slot) (H : Heap) (locs : List Loc) (h : XH) (v2 : Int32) (hl : lv_has ls 3 [(0, .ref (oX O + 64)), (2, .int v2)]) (hR : x_R O K h H) (hS : va_S (oA O) s.heap H locs) (hf : f_X12_readLine_135 (oX O) h v2 = some (r, h')) : W p l e (x_rm 72 1854) s m args below meth c H locs 0 0 (MQ below (x_Qc O K h' (some (.int r))) args s 0 0 (oA O)) (F0 m 135 ls []) := by
  have hx := C.1
  have hb := C.2.1
  rw [f_X12_readLine_135] at hf
  refine lv_aload_n hx hb dX12_readLine_135 rfl (lv_at hl 0 rfl) ?_
  refine gf_12_1 C hR (x_k hR 64 rfl) tw_1544 dX12_readLine_136 ?_
  refine lv_iload_n hx hb dX12_readLine_139 rfl (lv_at hl 1 rfl) ?_
  refine lv_iconst (v := 3) hx hb dX12_readLine_140 rfl ?_
  refine lv_iadd hx hb dX12_readLine_141 ?_
  refine lv_aload_n hx hb dX12_readLine_142 rfl (lv_at hl 0 rfl) ?_
  refine gf_12_12 C hR (x_k hR 64 rfl) tw_1555 dX12_readLine_143 ?_
  obtain ⟨g15, hf⟩ := x_gd hf
  obtain ⟨h16, eh16, hf⟩ := x_lt hf
  refine x_iast C hR hS (x_k1 (x_k hR 65 rfl)) (x_k2 (x_k hR 65 rfl) g15) dX12_readLine_146 (fun H locs hR hS => ?_)
  rw [← eh16] at hR
  refine lv_aload_n hx hb dX12_readLine_147 rfl (lv_at hl 0 rfl) ?_
  refine lv_iconst (v := 0) hx hb dX12_readLine_148 rfl ?_
  obtain ⟨h17, eh17, hf⟩ := x_lt hf
  refine pf_12_9 C hR hS (x_k hR 64 rfl) tw_1552 dX12_readLine_149 (fun H locs hR hS => ?_)
  rw [← eh17] at hR
  refine lv_aload_n hx hb dX12_readLine_152 rfl (lv_at hl 0 rfl) ?_
  refine va_ldcS hx hb C.2.2.2.1 (xs_64 C) dX12_readLine_153 ?_
  obtain ⟨q18, eq18, hf⟩ := x_bd hf
  refine x_cVi1 C hR hS (S_X12_passes (by decide) eq18) (x_k hR 64 rfl) (by decide) rfl mf_X12_passes tw_1703 (Nat.le_of_ble_eq_true rfl) (Nat.le_of_ble_eq_true rfl) hl.1 (Nat.le_of_ble_eq_true rfl) dX12_readLine_155 ⟨Nat.le_refl _, Nat.le_refl _⟩ (fun H locs hR hS => ?_)
  refine lv_if_eq (tgt := 170) hx hb dX12_readLine_158 rfl (fun hc => ?_) (fun hc => ?_)
  · have hf := x_ip hc hf
    exact B_X12_readLine_170  C   ls _ _ q18.2 _  (lv_sub hl [0, 1] rfl) hR hS hf
  · have hf := x_in hc hf
    refine lv_aload_n hx hb dX12_readLine_161 rfl (lv_at hl 0 rfl) ?_
    obtain ⟨q21, eq21, hf⟩ := x_bd hf
    refine x_cVi0 C hR hS (S_X12_readCond (FR0 := 8 * 8) (LR0 := 206 * 8) (S_X12_readAtomR 8)  eq21) (x_k hR 64 rfl) (by decide) rfl mf_X12_readCond tw_1707 (Nat.le_of_ble_eq_true rfl) (Nat.le_of_ble_eq_true rfl) hl.1 (Nat.le_of_ble_eq_true rfl) dX12_readLine_162 ⟨Nat.le_refl _, Nat.le_refl _⟩ (fun H locs hR hS => ?_)
    refine lv_if_ne (tgt := 170) hx hb dX12_readLine_165 rfl (fun hc => ?_) (fun hc => ?_)
    · have hf := x_in hc hf
      exact B_X12_readLine_170  C   ls _ _ q21.2 _  (lv_sub hl [0, 1] rfl) hR hS hf
    · have hf := x_ip hc hf
      refine lv_iconst (v := 0) hx hb dX12_readLine_168 rfl ?_
      cases hf
      exact x_zret C hR hS (Or.inl rfl) dX12_readLine_169
set_option maxRecDepth 20000 in
theorem B_X12_readLine_51 {p : Program} {l : Launch} {e : Env} {s : State} {m : MethodId} {args : Array Value} {below : List Frame} {meth : Method} {c : Code} {O : XO} {K : XK} {r : Int32} {h' : XH}   (C : x_C p s m args meth c O cX12_readLine 3 RX12 (some .boolean))   (ls : Array Slot) (H : Heap) (locs : List Loc) (h : XH) (v2 : Int32) (s1 : Int32) (s2 : Int32) (hl : lv_has ls 3 [(0, .ref (oX O + 64)), (2, .int v2)]) (hR : x_R O K h H) (hS : va_S (oA O) s.heap H locs) (hf : f_X12_readLine_51 (oX O) h v2 s1 s2 = some (r, h')) : W p l e (x_rm 72 1854) s m args below meth c H locs 0 0 (MQ below (x_Qc O K h' (some (.int r))) args s 0 0 (oA O)) (F0 m 51 ls [.int s2, .int s1, .ref (oX O + 65)]) := by
  have hx := C.1
  have hb := C.2.1
  rw [f_X12_readLine_51] at hf
  obtain ⟨g5, hf⟩ := x_gd hf
  obtain ⟨h6, eh6, hf⟩ := x_lt hf
  refine x_iast C hR hS (x_k1 (x_k hR 65 rfl)) (x_k2 (x_k hR 65 rfl) g5) dX12_readLine_51 (fun H locs hR hS => ?_)
  rw [← eh6] at hR
  refine lv_aload_n hx hb dX12_readLine_52 rfl (lv_at hl 0 rfl) ?_
  refine gf_12_1 C hR (x_k hR 64 rfl) tw_1544 dX12_readLine_53 ?_
  refine lv_iload_n hx hb dX12_readLine_56 rfl (lv_at hl 1 rfl) ?_
  obtain ⟨g7, hf⟩ := x_gd hf
  refine x_iald C hR (x_k1 (x_k hR 65 rfl)) (x_k2 (x_k hR 65 rfl) g7) dX12_readLine_57 ?_
  refine lv_if_ge (tgt := 63) hx hb dX12_readLine_58 rfl (fun hc => ?_) (fun hc => ?_)
  · have hf := x_ip hc hf
    refine lv_aload_n hx hb dX12_readLine_63 rfl (lv_at hl 0 rfl) ?_
    refine gf_12_1 C hR (x_k hR 64 rfl) tw_1544 dX12_readLine_64 ?_
    refine lv_iload_n hx hb dX12_readLine_67 rfl (lv_at hl 1 rfl) ?_
    refine lv_iconst (v := 1) hx hb dX12_readLine_68 rfl ?_
    refine lv_iadd hx hb dX12_readLine_69 ?_
    refine lv_aload_n hx hb dX12_readLine_70 rfl (lv_at hl 0 rfl) ?_
    obtain ⟨q8, eq8, hf⟩ := x_bd hf
    refine x_cVi0 C hR hS (S_X12_number  eq8) (x_k hR 64 rfl) (by decide) rfl mf_X12_number tw_1678 (Nat.le_of_ble_eq_true rfl) (Nat.le_of_ble_eq_true rfl) hl.1 (Nat.le_of_ble_eq_true rfl) dX12_readLine_71 ⟨Nat.le_refl _, Nat.le_refl _⟩ (fun H locs hR hS => ?_)
    obtain ⟨g9, hf⟩ := x_gd hf
    obtain ⟨h10, eh10, hf⟩ := x_lt hf
    refine x_iast C hR hS (x_k1 (x_k hR 65 rfl)) (x_k2 (x_k hR 65 rfl) g9) dX12_readLine_74 (fun H locs hR hS => ?_)
    rw [← eh10] at hR
    refine lv_aload_n hx hb dX12_readLine_75 rfl (lv_at hl 0 rfl) ?_
    refine gf_12_1 C hR (x_k hR 64 rfl) tw_1544 dX12_readLine_76 ?_
    refine lv_iload_n hx hb dX12_readLine_79 rfl (lv_at hl 1 rfl) ?_
    refine lv_iconst (v := 1) hx hb dX12_readLine_80 rfl ?_
    refine lv_iadd hx hb dX12_readLine_81 ?_
    obtain ⟨g11, hf⟩ := x_gd hf
    refine x_iald C hR (x_k1 (x_k hR 65 rfl)) (x_k2 (x_k hR 65 rfl) g11) dX12_readLine_82 ?_
    refine lv_if_ge (tgt := 88) hx hb dX12_readLine_83 rfl (fun hc => ?_) (fun hc => ?_)
    · have hf := x_ip hc hf
      refine lv_aload_n hx hb dX12_readLine_88 rfl (lv_at hl 0 rfl) ?_
      refine gf_12_1 C hR (x_k hR 64 rfl) tw_1544 dX12_readLine_89 ?_
      refine lv_iload_n hx hb dX12_readLine_92 rfl (lv_at hl 1 rfl) ?_
      refine lv_iconst (v := 2) hx hb dX12_readLine_93 rfl ?_
      refine lv_iadd hx hb dX12_readLine_94 ?_
      refine lv_iconst (v := (-1)) hx hb dX12_readLine_95 rfl ?_
      obtain ⟨g12, hf⟩ := x_gd hf
      obtain ⟨h13, eh13, hf⟩ := x_lt hf
      refine x_iast C hR hS (x_k1 (x_k hR 65 rfl)) (x_k2 (x_k hR 65 rfl) g12) dX12_readLine_96 (fun H locs hR hS => ?_)
      rw [← eh13] at hR
      refine lv_aload_n hx hb dX12_readLine_97 rfl (lv_at hl 0 rfl) ?_
      refine lv_bipush (v := 42) hx hb dX12_readLine_98 rfl ?_
      obtain ⟨q14, eq14, hf⟩ := x_bd hf
      refine x_cVi1 C hR hS (S_X12_sign  eq14) (x_k hR 64 rfl) (by decide) rfl mf_X12_sign tw_1682 (Nat.le_of_ble_eq_true rfl) (Nat.le_of_ble_eq_true rfl) hl.1 (Nat.le_of_ble_eq_true rfl) dX12_readLine_100 ⟨Nat.le_refl _, Nat.le_refl _⟩ (fun H locs hR hS => ?_)
      refine lv_if_eq (tgt := 135) hx hb dX12_readLine_103 rfl (fun hc => ?_) (fun hc => ?_)
      · have hf := x_ip hc hf
        exact B_X12_readLine_135  C   ls _ _ q14.2 _  (lv_sub hl [0, 1] rfl) hR hS hf
      · have hf := x_in hc hf
        refine lv_aload_n hx hb dX12_readLine_106 rfl (lv_at hl 0 rfl) ?_
        obtain ⟨h22, eh22, hf⟩ := x_bd hf
        refine x_cVv0 C hR hS (S_X12_letters  eh22) (x_k hR 64 rfl) (by decide) rfl mf_X12_letters tw_1660 (Nat.le_of_ble_eq_true rfl) (Nat.le_of_ble_eq_true rfl) hl.1 (Nat.le_of_ble_eq_true rfl) dX12_readLine_107 ⟨Nat.le_refl _, Nat.le_refl _⟩ (fun H locs hR hS => ?_)
        refine lv_aload_n hx hb dX12_readLine_110 rfl (lv_at hl 0 rfl) ?_
        refine gf_12_1 C hR (x_k hR 64 rfl) tw_1544 dX12_readLine_111 ?_
        refine lv_iload_n hx hb dX12_readLine_114 rfl (lv_at hl 1 rfl) ?_
        refine lv_iconst (v := 2) hx hb dX12_readLine_115 rfl ?_
        refine lv_iadd hx hb dX12_readLine_116 ?_
        refine lv_aload_n hx hb dX12_readLine_117 rfl (lv_at hl 0 rfl) ?_
        obtain ⟨v_23, ev_23, hf⟩ := x_bd hf
        refine x_cVi0 C hR hS (S_X12_factAt  ev_23) (x_k hR 64 rfl) (by decide) rfl mf_X12_factAt tw_1686 (Nat.le_of_ble_eq_true rfl) (Nat.le_of_ble_eq_true rfl) hl.1 (Nat.le_of_ble_eq_true rfl) dX12_readLine_118 ⟨Nat.le_refl _, Nat.le_refl _⟩ (fun H locs hR hS => ?_)
        obtain ⟨g24, hf⟩ := x_gd hf
        obtain ⟨h25, eh25, hf⟩ := x_lt hf
        refine x_iast C hR hS (x_k1 (x_k hR 65 rfl)) (x_k2 (x_k hR 65 rfl) g24) dX12_readLine_121 (fun H locs hR hS => ?_)
        rw [← eh25] at hR
        refine lv_aload_n hx hb dX12_readLine_122 rfl (lv_at hl 0 rfl) ?_
        refine gf_12_1 C hR (x_k hR 64 rfl) tw_1544 dX12_readLine_123 ?_
        refine lv_iload_n hx hb dX12_readLine_126 rfl (lv_at hl 1 rfl) ?_
        refine lv_iconst (v := 2) hx hb dX12_readLine_127 rfl ?_
        refine lv_iadd hx hb dX12_readLine_128 ?_
        obtain ⟨g26, hf⟩ := x_gd hf
        refine x_iald C hR (x_k1 (x_k hR 65 rfl)) (x_k2 (x_k hR 65 rfl) g26) dX12_readLine_129 ?_
        refine lv_if_ge (tgt := 135) hx hb dX12_readLine_130 rfl (fun hc => ?_) (fun hc => ?_)
        · have hf := x_ip hc hf
          exact B_X12_readLine_135  C   ls _ _ h25 _  (lv_sub hl [0, 1] rfl) hR hS hf
        · have hf := x_in hc hf
          refine lv_iconst (v := 0) hx hb dX12_readLine_133 rfl ?_
          cases hf
          exact x_zret C hR hS (Or.inl rfl) dX12_readLine_134
    · have hf := x_in hc hf
      refine lv_iconst (v := 0) hx hb dX12_readLine_86 rfl ?_
      cases hf
      exact x_zret C hR hS (Or.inl rfl) dX12_readLine_87
  · have hf := x_in hc hf
    refine lv_iconst (v := 0) hx hb dX12_readLine_61 rfl ?_
    cases hf
    exact x_zret C hR hS (Or.inl rfl) dX12_readLine_62
set_option maxRecDepth 20000 in
theorem S_X12_readLine {l : Launch} {O : XO} {K : XK} {h : XH} {v1 : Int32}  {r : Int32} {h' : XH}  (hf : f_X12_readLine (oX O) h v1 = some (r, h')) : x_M l O K yX12_readLine cX12_readLine 3 (some .boolean) 72 1854 h [.ref (oX O + 64), .int v1] (some (.int r)) h' := by
  refine x_enter (by decide) (Nat.le_of_ble_eq_true rfl) (fun p e s m args below meth c C hR ls hl => ?_)
  have hS : va_S (oA O) s.heap s.heap [] := va_S.rf
  have hx := C.1
  have hb := C.2.1
  have hl : lv_has ls 3 [(0, .ref (oX O + 64)), (1, .int v1)] := hl
  rw [f_X12_readLine] at hf
  refine lv_aload_n hx hb dX12_readLine_0 rfl (lv_at hl 0 rfl) ?_
  obtain ⟨h1, eh1, hf⟩ := x_bd hf
  refine x_cVv0 C hR hS (S_X12_letters  eh1) (x_k hR 64 rfl) (by decide) rfl mf_X12_letters tw_1660 (Nat.le_of_ble_eq_true rfl) (Nat.le_of_ble_eq_true rfl) hl.1 (Nat.le_of_ble_eq_true rfl) dX12_readLine_1 ⟨Nat.le_refl _, Nat.le_refl _⟩ (fun H locs hR hS => ?_)
  refine lv_iload_n hx hb dX12_readLine_4 rfl (lv_at hl 1 rfl) ?_
  refine lv_bipush (v := 10) hx hb dX12_readLine_5 rfl ?_
  refine lv_icmp_ne (tgt := 12) hx hb dX12_readLine_7 rfl (fun hc => ?_) (fun hc => ?_)
  · have hf := x_in hc hf
    refine lv_bipush (v := 6) hx hb dX12_readLine_12 rfl ?_
    refine lv_iload_n hx hb dX12_readLine_14 rfl (lv_at hl 1 rfl) ?_
    refine x_cSi2 C hR hS (S_X12_lineAt  rfl) mf_X12_lineAt tw_1664 (Nat.le_of_ble_eq_true rfl) (Nat.le_of_ble_eq_true rfl) hl.1 (Nat.le_of_ble_eq_true rfl) dX12_readLine_15 ⟨Nat.le_refl _, Nat.le_refl _⟩ (fun H locs hR hS => ?_)
    refine lv_istore_n (lv' := [(2, _), (0, _), (1, _)]) hx hb dX12_readLine_18 rfl hl (Nat.le_of_ble_eq_true rfl) rfl (fun ls hl => ?_)
    refine lv_aload_n hx hb dX12_readLine_19 rfl (lv_at hl 1 rfl) ?_
    refine gf_12_1 C hR (x_k hR 64 rfl) tw_1544 dX12_readLine_20 ?_
    refine lv_iload_n hx hb dX12_readLine_23 rfl (lv_at hl 0 rfl) ?_
    refine lv_aload_n hx hb dX12_readLine_24 rfl (lv_at hl 1 rfl) ?_
    refine va_ldcS hx hb C.2.2.2.1 (xs_50 C) dX12_readLine_25 ?_
    obtain ⟨v_2, ev_2, hf⟩ := x_bd hf
    refine x_cVi1 C hR hS (S_X12_isWord (by decide) ev_2) (x_k hR 64 rfl) (by decide) rfl mf_X12_isWord tw_1671 (Nat.le_of_ble_eq_true rfl) (Nat.le_of_ble_eq_true rfl) hl.1 (Nat.le_of_ble_eq_true rfl) dX12_readLine_27 ⟨Nat.le_refl _, Nat.le_refl _⟩ (fun H locs hR hS => ?_)
    refine lv_if_eq (tgt := 37) hx hb dX12_readLine_30 rfl (fun hc => ?_) (fun hc => ?_)
    · have hf := x_ip hc hf
      refine lv_aload_n hx hb dX12_readLine_37 rfl (lv_at hl 1 rfl) ?_
      refine va_ldcS hx hb C.2.2.2.1 (xs_51 C) dX12_readLine_38 ?_
      obtain ⟨v_3, ev_3, hf⟩ := x_bd hf
      refine x_cVi1 C hR hS (S_X12_isWord (by decide) ev_3) (x_k hR 64 rfl) (by decide) rfl mf_X12_isWord tw_1671 (Nat.le_of_ble_eq_true rfl) (Nat.le_of_ble_eq_true rfl) hl.1 (Nat.le_of_ble_eq_true rfl) dX12_readLine_40 ⟨Nat.le_refl _, Nat.le_refl _⟩ (fun H locs hR hS => ?_)
      have kM4 : ∀ (ls : Array Slot) (H : Heap) (locs : List Loc), lv_has ls 3 [(0, .ref (oX O + 64)), (2, .int (f_X12_lineAt h1 6 v1))] → x_R O K h1 H → va_S (oA O) s.heap H locs → W p l e (x_rm 72 1854) s m args below meth c H locs 0 0 (MQ below (x_Qc O K h' (some (.int r))) args s 0 0 (oA O)) (F0 m 51 ls [.int (if v_3 = 0 then (-1) else 1), .int (f_X12_lineAt h1 6 v1), .ref (oX O + 65)]) := by
        intro ls H locs hl hR hS
        exact B_X12_readLine_51  C   ls _ _ h1 _ _ _  (lv_sub hl [0, 1] rfl) hR hS hf
      refine lv_if_eq (tgt := 50) hx hb dX12_readLine_43 rfl (fun hc => ?_) (fun hc => ?_)
      · try simp only [if_pos hc] at kM4
        refine lv_iconst (v := (-1)) hx hb dX12_readLine_50 rfl ?_
        exact kM4 ls _ _ (lv_sub hl [1, 0] rfl) hR hS
      · try simp only [if_neg hc] at kM4
        refine lv_iconst (v := 1) hx hb dX12_readLine_46 rfl ?_
        refine lv_goto (tgt := 51) hx hb dX12_readLine_47 rfl ?_
        exact kM4 ls _ _ (lv_sub hl [1, 0] rfl) hR hS
    · have hf := x_in hc hf
      refine lv_iconst (v := 0) hx hb dX12_readLine_33 rfl ?_
      refine lv_goto (tgt := 51) hx hb dX12_readLine_34 rfl ?_
      exact B_X12_readLine_51  C   ls _ _ h1 _ _ _  (lv_sub hl [1, 0] rfl) hR hS hf
  · have hf := x_ip hc hf
    refine lv_iconst (v := 0) hx hb dX12_readLine_10 rfl ?_
    cases hf
    exact x_zret C hR hS (Or.inl rfl) dX12_readLine_11
def f_X12_readAll_19 (x : Nat) : Nat → XH → Int32 → Option (Int32 × XH)
  | 0, _, _ => none
  | n + 1, h, v1 => Option.bind (f_X12_readLine x h v1) (fun q2 => if q2.1 = 0 then some ((-1), q2.2) else Option.bind (f_X12_blanks x q2.2) (fun h3 => if (h3.1 (x + 64) 6) = (h3.1 (x + 64) 7) then some ((v1 + 1), h3) else Option.bind (f_X12_isAt x h3 59 59) (fun v_4 => if v_4 = 0 then some ((-1), h3) else x_let (x_i h3 (x + 64) 6 ((h3.1 (x + 64) 6) + 1)) (fun h5 => f_X12_readAll_19 x n h5 (v1 + 1)))))
def f_X12_readAll (x : Nat) (h : XH) : Option (Int32 × XH) := Option.bind (f_X12_blanks x h) (fun h1 => if (h1.1 (x + 64) 6) = (h1.1 (x + 64) 7) then some (0, h1) else f_X12_readAll_19 x x_FU h1 0)
set_option maxRecDepth 20000 in
theorem B_X12_readAll_19 {p : Program} {l : Launch} {e : Env} {s : State} {m : MethodId} {args : Array Value} {below : List Frame} {meth : Method} {c : Code} {O : XO} {K : XK} {r : Int32} {h' : XH}   (C : x_C p s m args meth c O cX12_readAll 2 RX12 (some .int))   : ∀ (n : Nat) (ls : Array Slot) (H : Heap) (locs : List Loc) (h : XH) (v1 : Int32) (hl : lv_has ls 2 [(0, .ref (oX O + 64)), (1, .int v1)]) (hR : x_R O K h H) (hS : va_S (oA O) s.heap H locs) (hf : f_X12_readAll_19 (oX O) n h v1 = some (r, h')), W p l e (x_rm 73 1876) s m args below meth c H locs 0 0 (MQ below (x_Qc O K h' (some (.int r))) args s 0 0 (oA O)) (F0 m 19 ls []) := by
  have hx := C.1
  have hb := C.2.1
  intro n
  induction n with
  | zero =>
    intro ls H locs h v1 hl hR hS hf
    rw [f_X12_readAll_19] at hf
    cases hf
  | succ n ih =>
    intro ls H locs h v1 hl hR hS hf
    rw [f_X12_readAll_19] at hf
    refine lv_aload_n hx hb dX12_readAll_19 rfl (lv_at hl 0 rfl) ?_
    refine lv_iload_n hx hb dX12_readAll_20 rfl (lv_at hl 1 rfl) ?_
    obtain ⟨q2, eq2, hf⟩ := x_bd hf
    refine x_cVi1 C hR hS (S_X12_readLine  eq2) (x_k hR 64 rfl) (by decide) rfl mf_X12_readLine tw_1656 (Nat.le_of_ble_eq_true rfl) (Nat.le_of_ble_eq_true rfl) hl.1 (Nat.le_of_ble_eq_true rfl) dX12_readAll_21 ⟨Nat.le_refl _, Nat.le_refl _⟩ (fun H locs hR hS => ?_)
    refine lv_if_ne (tgt := 29) hx hb dX12_readAll_24 rfl (fun hc => ?_) (fun hc => ?_)
    · have hf := x_in hc hf
      refine lv_aload_n hx hb dX12_readAll_29 rfl (lv_at hl 0 rfl) ?_
      obtain ⟨h3, eh3, hf⟩ := x_bd hf
      refine x_cVv0 C hR hS (S_X12_blanks  eh3) (x_k hR 64 rfl) (by decide) rfl mf_X12_blanks tw_1648 (Nat.le_of_ble_eq_true rfl) (Nat.le_of_ble_eq_true rfl) hl.1 (Nat.le_of_ble_eq_true rfl) dX12_readAll_30 ⟨Nat.le_refl _, Nat.le_refl _⟩ (fun H locs hR hS => ?_)
      refine lv_aload_n hx hb dX12_readAll_33 rfl (lv_at hl 0 rfl) ?_
      refine gf_12_6 C hR (x_k hR 64 rfl) tw_1549 dX12_readAll_34 ?_
      refine lv_aload_n hx hb dX12_readAll_37 rfl (lv_at hl 0 rfl) ?_
      refine gf_12_7 C hR (x_k hR 64 rfl) tw_1550 dX12_readAll_38 ?_
      refine lv_icmp_ne (tgt := 48) hx hb dX12_readAll_41 rfl (fun hc => ?_) (fun hc => ?_)
      · have hf := x_in hc hf
        refine lv_aload_n hx hb dX12_readAll_48 rfl (lv_at hl 0 rfl) ?_
        refine lv_bipush (v := 59) hx hb dX12_readAll_49 rfl ?_
        refine lv_bipush (v := 59) hx hb dX12_readAll_51 rfl ?_
        obtain ⟨v_4, ev_4, hf⟩ := x_bd hf
        refine x_cVi2 C hR hS (S_X12_isAt  ev_4) (x_k hR 64 rfl) (by decide) rfl mf_X12_isAt tw_1652 (Nat.le_of_ble_eq_true rfl) (Nat.le_of_ble_eq_true rfl) hl.1 (Nat.le_of_ble_eq_true rfl) dX12_readAll_53 ⟨Nat.le_refl _, Nat.le_refl _⟩ (fun H locs hR hS => ?_)
        refine lv_if_ne (tgt := 61) hx hb dX12_readAll_56 rfl (fun hc => ?_) (fun hc => ?_)
        · have hf := x_in hc hf
          refine lv_aload_n hx hb dX12_readAll_61 rfl (lv_at hl 0 rfl) ?_
          refine lv_dup hx hb dX12_readAll_62 rfl ?_
          refine gf_12_6 C hR (x_k hR 64 rfl) tw_1549 dX12_readAll_63 ?_
          refine lv_iconst (v := 1) hx hb dX12_readAll_66 rfl ?_
          refine lv_iadd hx hb dX12_readAll_67 ?_
          obtain ⟨h5, eh5, hf⟩ := x_lt hf
          refine pf_12_6 C hR hS (x_k hR 64 rfl) tw_1549 dX12_readAll_68 (fun H locs hR hS => ?_)
          rw [← eh5] at hR
          refine lv_iinc (k := 1) (v := _ + 1) (lv' := [(1, _), (0, _)]) hx hb dX12_readAll_71 hl rfl (x_inc 1 1 rfl _) (Nat.le_of_ble_eq_true rfl) rfl (fun ls hl => ?_)
          refine lv_goto (tgt := 19) hx hb dX12_readAll_74 rfl ?_
          exact ih ls _ _ h5 _  (lv_sub hl [1, 0] rfl) hR hS hf
        · have hf := x_ip hc hf
          refine lv_iconst (v := (-1)) hx hb dX12_readAll_59 rfl ?_
          cases hf
          exact x_iret C hR hS dX12_readAll_60
      · have hf := x_ip hc hf
        refine lv_iload_n hx hb dX12_readAll_44 rfl (lv_at hl 1 rfl) ?_
        refine lv_iconst (v := 1) hx hb dX12_readAll_45 rfl ?_
        refine lv_iadd hx hb dX12_readAll_46 ?_
        cases hf
        exact x_iret C hR hS dX12_readAll_47
    · have hf := x_ip hc hf
      refine lv_iconst (v := (-1)) hx hb dX12_readAll_27 rfl ?_
      cases hf
      exact x_iret C hR hS dX12_readAll_28
set_option maxRecDepth 20000 in
theorem S_X12_readAll {l : Launch} {O : XO} {K : XK} {h : XH}  {r : Int32} {h' : XH}  (hf : f_X12_readAll (oX O) h = some (r, h')) : x_M l O K yX12_readAll cX12_readAll 2 (some .int) 73 1876 h [.ref (oX O + 64)] (some (.int r)) h' := by
  refine x_enter (by decide) (Nat.le_of_ble_eq_true rfl) (fun p e s m args below meth c C hR ls hl => ?_)
  have hS : va_S (oA O) s.heap s.heap [] := va_S.rf
  have hx := C.1
  have hb := C.2.1
  have hl : lv_has ls 2 [(0, .ref (oX O + 64))] := hl
  rw [f_X12_readAll] at hf
  refine lv_aload_n hx hb dX12_readAll_0 rfl (lv_at hl 0 rfl) ?_
  obtain ⟨h1, eh1, hf⟩ := x_bd hf
  refine x_cVv0 C hR hS (S_X12_blanks  eh1) (x_k hR 64 rfl) (by decide) rfl mf_X12_blanks tw_1648 (Nat.le_of_ble_eq_true rfl) (Nat.le_of_ble_eq_true rfl) hl.1 (Nat.le_of_ble_eq_true rfl) dX12_readAll_1 ⟨Nat.le_refl _, Nat.le_refl _⟩ (fun H locs hR hS => ?_)
  refine lv_aload_n hx hb dX12_readAll_4 rfl (lv_at hl 0 rfl) ?_
  refine gf_12_6 C hR (x_k hR 64 rfl) tw_1549 dX12_readAll_5 ?_
  refine lv_aload_n hx hb dX12_readAll_8 rfl (lv_at hl 0 rfl) ?_
  refine gf_12_7 C hR (x_k hR 64 rfl) tw_1550 dX12_readAll_9 ?_
  refine lv_icmp_ne (tgt := 17) hx hb dX12_readAll_12 rfl (fun hc => ?_) (fun hc => ?_)
  · have hf := x_in hc hf
    refine lv_iconst (v := 0) hx hb dX12_readAll_17 rfl ?_
    refine lv_istore_n (lv' := [(1, _), (0, _)]) hx hb dX12_readAll_18 rfl hl (Nat.le_of_ble_eq_true rfl) rfl (fun ls hl => ?_)
    exact B_X12_readAll_19  C  x_FU ls _ _ h1 _  (lv_sub hl [1, 0] rfl) hR hS hf
  · have hf := x_ip hc hf
    refine lv_iconst (v := 0) hx hb dX12_readAll_15 rfl ?_
    cases hf
    exact x_iret C hR hS dX12_readAll_16
def f_X12_keeps_98 (x : Nat) (h : XH) : Option (Int32 × XH) := some (0, h)
def f_X12_keeps_113 (x : Nat) : Nat → XH → Int32 → Int32 → Int32 → Int32 → Option (Int32 × XH)
  | 0, _, _, _, _, _ => none
  | n + 1, h, v2, v5, v6, v7 => if 851 ≤ v7 then if x_b (f_X12_textAt h v6) 6927 = true then x_let (x_i h (x + 65) (f_X12_textAt h v6).toNatClampNeg v5) (fun h19 => if x_b v2 6927 = true then if x_b v2 6927 = true then x_let (x_i h19 (x + 65) v2.toNatClampNeg ((h19.1 (x + 65) v2.toNatClampNeg) + 1)) (fun h22 => if x_b v2 6927 = true then some (((h22.1 (x + 65) v2.toNatClampNeg) - 1), h22) else none) else none else none) else none else if x_b ((f_X12_textAt h 6) + v7) 6927 = true then if x_b ((f_X12_textAt h v6) + v7) 6927 = true then x_let (x_i h (x + 65) ((f_X12_textAt h v6) + v7).toNatClampNeg (h.1 (x + 65) ((f_X12_textAt h 6) + v7).toNatClampNeg)) (fun h26 => f_X12_keeps_113 x n h26 v2 v5 v6 (v7 + 1)) else none else none
def f_X12_keeps (x : Nat) (h : XH) (v1 : Int32) (v2 : Int32) (v3 : Int32) (v4 : Int32) : Option (Int32 × XH) := x_let (x_i h (x + 64) 0 0) (fun h1 => x_let (x_i h1 (x + 64) 7 (h1.1 (x + 64) 5)) (fun h2 => x_let (x_i h2 (x + 64) 5 0) (fun h3 => x_let (x_i h3 (x + 64) 6 0) (fun h4 => x_let (x_i h4 (x + 64) 12 0) (fun h5 => if x_isb v1 = true then x_let (x_i h5 (x + 64) 13 v1) (fun h7 => Option.bind (f_X12_readAll x h7) (fun q8 => x_let (x_i q8.2 (x + 64) 10 (if 0 ≤ q8.1 then (-1) else (q8.2.1 (x + 64) 8))) (fun h10 => Option.bind (f_X12_throwsIf x h10 (if 0 ≤ q8.1 then 0 else 1) 1) (fun q12 => if q12.1 = 0 then if x_b v2 6927 = true then Option.bind (f_X12_throwsIf x q12.2 (if (q12.2.1 (x + 65) v2.toNatClampNeg) = v4 then 1 else 0) 2) (fun q15 => if q15.1 = 0 then if x_b v2 6927 = true then x_let ((v3 + (q15.2.1 (x + 65) v2.toNatClampNeg)) : Int32) (fun t17 => f_X12_keeps_113 x x_FU q15.2 v2 q8.1 t17 0) else none else f_X12_keeps_98 x q15.2) else none else f_X12_keeps_98 x q12.2)))) else none)))))
set_option maxRecDepth 20000 in
theorem B_X12_keeps_98 {p : Program} {l : Launch} {e : Env} {s : State} {m : MethodId} {args : Array Value} {below : List Frame} {meth : Method} {c : Code} {O : XO} {K : XK} {r : Int32} {h' : XH}   (C : x_C p s m args meth c O cX12_keeps 8 RX12 (some .int))   (ls : Array Slot) (H : Heap) (locs : List Loc) (h : XH) (hl : lv_has ls 8 []) (hR : x_R O K h H) (hS : va_S (oA O) s.heap H locs) (hf : f_X12_keeps_98 (oX O) h = some (r, h')) : W p l e (x_rm 74 1897) s m args below meth c H locs 0 0 (MQ below (x_Qc O K h' (some (.int r))) args s 0 0 (oA O)) (F0 m 98 ls []) := by
  have hx := C.1
  have hb := C.2.1
  rw [f_X12_keeps_98] at hf
  refine lv_iconst (v := 0) hx hb dX12_keeps_98 rfl ?_
  cases hf
  exact x_iret C hR hS dX12_keeps_99
set_option maxRecDepth 20000 in
theorem B_X12_keeps_113 {p : Program} {l : Launch} {e : Env} {s : State} {m : MethodId} {args : Array Value} {below : List Frame} {meth : Method} {c : Code} {O : XO} {K : XK} {r : Int32} {h' : XH}   (C : x_C p s m args meth c O cX12_keeps 8 RX12 (some .int))   : ∀ (n : Nat) (ls : Array Slot) (H : Heap) (locs : List Loc) (h : XH) (v2 : Int32) (v5 : Int32) (v6 : Int32) (v7 : Int32) (hl : lv_has ls 8 [(0, .ref (oX O + 64)), (2, .int v2), (5, .int v5), (6, .int v6), (7, .int v7)]) (hR : x_R O K h H) (hS : va_S (oA O) s.heap H locs) (hf : f_X12_keeps_113 (oX O) n h v2 v5 v6 v7 = some (r, h')), W p l e (x_rm 74 1897) s m args below meth c H locs 0 0 (MQ below (x_Qc O K h' (some (.int r))) args s 0 0 (oA O)) (F0 m 113 ls []) := by
  have hx := C.1
  have hb := C.2.1
  intro n
  induction n with
  | zero =>
    intro ls H locs h v2 v5 v6 v7 hl hR hS hf
    rw [f_X12_keeps_113] at hf
    cases hf
  | succ n ih =>
    intro ls H locs h v2 v5 v6 v7 hl hR hS hf
    rw [f_X12_keeps_113] at hf
    refine lv_iload hx hb dX12_keeps_113 (lv_at hl 4 rfl) ?_
    refine lv_sipush (v := 851) hx hb dX12_keeps_115 rfl ?_
    refine lv_icmp_ge (tgt := 153) hx hb dX12_keeps_118 rfl (fun hc => ?_) (fun hc => ?_)
    · have hf := x_ip hc hf
      refine lv_aload_n hx hb dX12_keeps_153 rfl (lv_at hl 0 rfl) ?_
      refine gf_12_1 C hR (x_k hR 64 rfl) tw_1544 dX12_keeps_154 ?_
      refine lv_iload hx hb dX12_keeps_157 (lv_at hl 3 rfl) ?_
      refine x_cSi1 C hR hS (S_X12_textAt  rfl) mf_X12_textAt tw_1667 (Nat.le_of_ble_eq_true rfl) (Nat.le_of_ble_eq_true rfl) hl.1 (Nat.le_of_ble_eq_true rfl) dX12_keeps_159 ⟨Nat.le_refl _, Nat.le_refl _⟩ (fun H locs hR hS => ?_)
      refine lv_iload hx hb dX12_keeps_162 (lv_at hl 2 rfl) ?_
      obtain ⟨g18, hf⟩ := x_gd hf
      obtain ⟨h19, eh19, hf⟩ := x_lt hf
      refine x_iast C hR hS (x_k1 (x_k hR 65 rfl)) (x_k2 (x_k hR 65 rfl) g18) dX12_keeps_164 (fun H locs hR hS => ?_)
      rw [← eh19] at hR
      refine lv_aload_n hx hb dX12_keeps_165 rfl (lv_at hl 0 rfl) ?_
      refine gf_12_1 C hR (x_k hR 64 rfl) tw_1544 dX12_keeps_166 ?_
      refine lv_iload_n hx hb dX12_keeps_169 rfl (lv_at hl 1 rfl) ?_
      refine lv_dup2_11 hx hb dX12_keeps_170 rfl rfl ?_
      obtain ⟨g20, hf⟩ := x_gd hf
      refine x_iald C hR (x_k1 (x_k hR 65 rfl)) (x_k2 (x_k hR 65 rfl) g20) dX12_keeps_171 ?_
      refine lv_iconst (v := 1) hx hb dX12_keeps_172 rfl ?_
      refine lv_iadd hx hb dX12_keeps_173 ?_
      obtain ⟨g21, hf⟩ := x_gd hf
      obtain ⟨h22, eh22, hf⟩ := x_lt hf
      refine x_iast C hR hS (x_k1 (x_k hR 65 rfl)) (x_k2 (x_k hR 65 rfl) g21) dX12_keeps_174 (fun H locs hR hS => ?_)
      rw [← eh22] at hR
      refine lv_aload_n hx hb dX12_keeps_175 rfl (lv_at hl 0 rfl) ?_
      refine gf_12_1 C hR (x_k hR 64 rfl) tw_1544 dX12_keeps_176 ?_
      refine lv_iload_n hx hb dX12_keeps_179 rfl (lv_at hl 1 rfl) ?_
      obtain ⟨g23, hf⟩ := x_gd hf
      refine x_iald C hR (x_k1 (x_k hR 65 rfl)) (x_k2 (x_k hR 65 rfl) g23) dX12_keeps_180 ?_
      refine lv_iconst (v := 1) hx hb dX12_keeps_181 rfl ?_
      refine lv_isub hx hb dX12_keeps_182 ?_
      cases hf
      exact x_iret C hR hS dX12_keeps_183
    · have hf := x_in hc hf
      refine lv_aload_n hx hb dX12_keeps_121 rfl (lv_at hl 0 rfl) ?_
      refine gf_12_1 C hR (x_k hR 64 rfl) tw_1544 dX12_keeps_122 ?_
      refine lv_iload hx hb dX12_keeps_125 (lv_at hl 3 rfl) ?_
      refine x_cSi1 C hR hS (S_X12_textAt  rfl) mf_X12_textAt tw_1667 (Nat.le_of_ble_eq_true rfl) (Nat.le_of_ble_eq_true rfl) hl.1 (Nat.le_of_ble_eq_true rfl) dX12_keeps_127 ⟨Nat.le_refl _, Nat.le_refl _⟩ (fun H locs hR hS => ?_)
      refine lv_iload hx hb dX12_keeps_130 (lv_at hl 4 rfl) ?_
      refine lv_iadd hx hb dX12_keeps_132 ?_
      refine lv_aload_n hx hb dX12_keeps_133 rfl (lv_at hl 0 rfl) ?_
      refine gf_12_1 C hR (x_k hR 64 rfl) tw_1544 dX12_keeps_134 ?_
      refine lv_bipush (v := 6) hx hb dX12_keeps_137 rfl ?_
      refine x_cSi1 C hR hS (S_X12_textAt  rfl) mf_X12_textAt tw_1667 (Nat.le_of_ble_eq_true rfl) (Nat.le_of_ble_eq_true rfl) hl.1 (Nat.le_of_ble_eq_true rfl) dX12_keeps_139 ⟨Nat.le_refl _, Nat.le_refl _⟩ (fun H locs hR hS => ?_)
      refine lv_iload hx hb dX12_keeps_142 (lv_at hl 4 rfl) ?_
      refine lv_iadd hx hb dX12_keeps_144 ?_
      obtain ⟨g24, hf⟩ := x_gd hf
      refine x_iald C hR (x_k1 (x_k hR 65 rfl)) (x_k2 (x_k hR 65 rfl) g24) dX12_keeps_145 ?_
      obtain ⟨g25, hf⟩ := x_gd hf
      obtain ⟨h26, eh26, hf⟩ := x_lt hf
      refine x_iast C hR hS (x_k1 (x_k hR 65 rfl)) (x_k2 (x_k hR 65 rfl) g25) dX12_keeps_146 (fun H locs hR hS => ?_)
      rw [← eh26] at hR
      refine lv_iinc (k := 4) (v := _ + 1) (lv' := [(7, _), (0, _), (2, _), (5, _), (6, _)]) hx hb dX12_keeps_147 hl rfl (x_inc 1 1 rfl _) (Nat.le_of_ble_eq_true rfl) rfl (fun ls hl => ?_)
      refine lv_goto (tgt := 113) hx hb dX12_keeps_150 rfl ?_
      exact ih ls _ _ h26 _ _ _ _  (lv_sub hl [1, 2, 3, 4, 0] rfl) hR hS hf
set_option maxRecDepth 20000 in
theorem S_X12_keeps {l : Launch} {O : XO} {K : XK} {h : XH} {v1 : Int32} {v2 : Int32} {v3 : Int32} {v4 : Int32}  {r : Int32} {h' : XH}  (hf : f_X12_keeps (oX O) h v1 v2 v3 v4 = some (r, h')) : x_M l O K yX12_keeps cX12_keeps 8 (some .int) 74 1897 h [.ref (oX O + 64), .int v1, .int v2, .int v3, .int v4] (some (.int r)) h' := by
  refine x_enter (by decide) (Nat.le_of_ble_eq_true rfl) (fun p e s m args below meth c C hR ls hl => ?_)
  have hS : va_S (oA O) s.heap s.heap [] := va_S.rf
  have hx := C.1
  have hb := C.2.1
  have hl : lv_has ls 8 [(0, .ref (oX O + 64)), (1, .int v1), (2, .int v2), (3, .int v3), (4, .int v4)] := hl
  rw [f_X12_keeps] at hf
  refine lv_aload_n hx hb dX12_keeps_0 rfl (lv_at hl 0 rfl) ?_
  refine lv_iconst (v := 0) hx hb dX12_keeps_1 rfl ?_
  obtain ⟨h1, eh1, hf⟩ := x_lt hf
  refine pf_12_0 C hR hS (x_k hR 64 rfl) tw_1543 dX12_keeps_2 (fun H locs hR hS => ?_)
  rw [← eh1] at hR
  refine lv_aload_n hx hb dX12_keeps_5 rfl (lv_at hl 0 rfl) ?_
  refine lv_aload_n hx hb dX12_keeps_6 rfl (lv_at hl 0 rfl) ?_
  refine gf_12_5 C hR (x_k hR 64 rfl) tw_1548 dX12_keeps_7 ?_
  obtain ⟨h2, eh2, hf⟩ := x_lt hf
  refine pf_12_7 C hR hS (x_k hR 64 rfl) tw_1550 dX12_keeps_10 (fun H locs hR hS => ?_)
  rw [← eh2] at hR
  refine lv_aload_n hx hb dX12_keeps_13 rfl (lv_at hl 0 rfl) ?_
  refine lv_iconst (v := 0) hx hb dX12_keeps_14 rfl ?_
  obtain ⟨h3, eh3, hf⟩ := x_lt hf
  refine pf_12_5 C hR hS (x_k hR 64 rfl) tw_1548 dX12_keeps_15 (fun H locs hR hS => ?_)
  rw [← eh3] at hR
  refine lv_aload_n hx hb dX12_keeps_18 rfl (lv_at hl 0 rfl) ?_
  refine lv_iconst (v := 0) hx hb dX12_keeps_19 rfl ?_
  obtain ⟨h4, eh4, hf⟩ := x_lt hf
  refine pf_12_6 C hR hS (x_k hR 64 rfl) tw_1549 dX12_keeps_20 (fun H locs hR hS => ?_)
  rw [← eh4] at hR
  refine lv_aload_n hx hb dX12_keeps_23 rfl (lv_at hl 0 rfl) ?_
  refine lv_iconst (v := 0) hx hb dX12_keeps_24 rfl ?_
  obtain ⟨h5, eh5, hf⟩ := x_lt hf
  refine pf_12_12 C hR hS (x_k hR 64 rfl) tw_1555 dX12_keeps_25 (fun H locs hR hS => ?_)
  rw [← eh5] at hR
  refine lv_aload_n hx hb dX12_keeps_28 rfl (lv_at hl 0 rfl) ?_
  refine lv_iload_n hx hb dX12_keeps_29 rfl (lv_at hl 1 rfl) ?_
  obtain ⟨g6, hf⟩ := x_gd hf
  obtain ⟨h7, eh7, hf⟩ := x_lt hf
  refine pf_12_13 C hR hS (x_isb_of g6) (x_k hR 64 rfl) tw_1556 dX12_keeps_30 (fun H locs hR hS => ?_)
  rw [← eh7] at hR
  refine lv_aload_n hx hb dX12_keeps_33 rfl (lv_at hl 0 rfl) ?_
  obtain ⟨q8, eq8, hf⟩ := x_bd hf
  refine x_cVi0 C hR hS (S_X12_readAll  eq8) (x_k hR 64 rfl) (by decide) rfl mf_X12_readAll tw_1644 (Nat.le_of_ble_eq_true rfl) (Nat.le_of_ble_eq_true rfl) hl.1 (Nat.le_of_ble_eq_true rfl) dX12_keeps_34 ⟨Nat.le_refl _, Nat.le_refl _⟩ (fun H locs hR hS => ?_)
  refine lv_istore (lv' := [(5, _), (0, _), (1, _), (2, _), (3, _), (4, _)]) hx hb dX12_keeps_37 hl (Nat.le_of_ble_eq_true rfl) rfl (fun ls hl => ?_)
  refine lv_aload_n hx hb dX12_keeps_39 rfl (lv_at hl 1 rfl) ?_
  refine lv_iload hx hb dX12_keeps_40 (lv_at hl 0 rfl) ?_
  have kM9 : ∀ (ls : Array Slot) (H : Heap) (locs : List Loc), lv_has ls 8 [(0, .ref (oX O + 64)), (2, .int v2), (3, .int v3), (4, .int v4), (5, .int q8.1)] → x_R O K q8.2 H → va_S (oA O) s.heap H locs → W p l e (x_rm 74 1897) s m args below meth c H locs 0 0 (MQ below (x_Qc O K h' (some (.int r))) args s 0 0 (oA O)) (F0 m 53 ls [.int (if 0 ≤ q8.1 then (-1) else (q8.2.1 (oX O + 64) 8)), .ref (oX O + 64)]) := by
    intro ls H locs hl hR hS
    obtain ⟨h10, eh10, hf⟩ := x_lt hf
    refine pf_12_10 C hR hS (x_k hR 64 rfl) tw_1553 dX12_keeps_53 (fun H locs hR hS => ?_)
    rw [← eh10] at hR
    refine lv_aload_n hx hb dX12_keeps_56 rfl (lv_at hl 0 rfl) ?_
    refine lv_iload hx hb dX12_keeps_57 (lv_at hl 4 rfl) ?_
    have kM11 : ∀ (ls : Array Slot) (H : Heap) (locs : List Loc), lv_has ls 8 [(0, .ref (oX O + 64)), (2, .int v2), (3, .int v3), (4, .int v4), (5, .int q8.1)] → x_R O K h10 H → va_S (oA O) s.heap H locs → W p l e (x_rm 74 1897) s m args below meth c H locs 0 0 (MQ below (x_Qc O K h' (some (.int r))) args s 0 0 (oA O)) (F0 m 67 ls [.int (if 0 ≤ q8.1 then 0 else 1), .ref (oX O + 64)]) := by
      intro ls H locs hl hR hS
      refine lv_iconst (v := 1) hx hb dX12_keeps_67 rfl ?_
      obtain ⟨q12, eq12, hf⟩ := x_bd hf
      refine x_cVi2 C hR hS (S_X12_throwsIf  eq12) (x_k hR 64 rfl) (by decide) rfl mf_X12_throwsIf tw_1741 (Nat.le_of_ble_eq_true rfl) (Nat.le_of_ble_eq_true rfl) hl.1 (Nat.le_of_ble_eq_true rfl) dX12_keeps_68 ⟨Nat.le_refl _, Nat.le_refl _⟩ (fun H locs hR hS => ?_)
      refine lv_if_ne (tgt := 98) hx hb dX12_keeps_71 rfl (fun hc => ?_) (fun hc => ?_)
      · have hf := x_in hc hf
        exact B_X12_keeps_98  C   ls _ _ q12.2  (lv_sub hl [] rfl) hR hS hf
      · have hf := x_ip hc hf
        refine lv_aload_n hx hb dX12_keeps_74 rfl (lv_at hl 0 rfl) ?_
        refine lv_aload_n hx hb dX12_keeps_75 rfl (lv_at hl 0 rfl) ?_
        refine gf_12_1 C hR (x_k hR 64 rfl) tw_1544 dX12_keeps_76 ?_
        refine lv_iload_n hx hb dX12_keeps_79 rfl (lv_at hl 1 rfl) ?_
        obtain ⟨g13, hf⟩ := x_gd hf
        refine x_iald C hR (x_k1 (x_k hR 65 rfl)) (x_k2 (x_k hR 65 rfl) g13) dX12_keeps_80 ?_
        refine lv_iload hx hb dX12_keeps_81 (lv_at hl 3 rfl) ?_
        have kM14 : ∀ (ls : Array Slot) (H : Heap) (locs : List Loc), lv_has ls 8 [(0, .ref (oX O + 64)), (2, .int v2), (3, .int v3), (5, .int q8.1)] → x_R O K q12.2 H → va_S (oA O) s.heap H locs → W p l e (x_rm 74 1897) s m args below meth c H locs 0 0 (MQ below (x_Qc O K h' (some (.int r))) args s 0 0 (oA O)) (F0 m 91 ls [.int (if (q12.2.1 (oX O + 65) v2.toNatClampNeg) = v4 then 1 else 0), .ref (oX O + 64)]) := by
          intro ls H locs hl hR hS
          refine lv_iconst (v := 2) hx hb dX12_keeps_91 rfl ?_
          obtain ⟨q15, eq15, hf⟩ := x_bd hf
          refine x_cVi2 C hR hS (S_X12_throwsIf  eq15) (x_k hR 64 rfl) (by decide) rfl mf_X12_throwsIf tw_1741 (Nat.le_of_ble_eq_true rfl) (Nat.le_of_ble_eq_true rfl) hl.1 (Nat.le_of_ble_eq_true rfl) dX12_keeps_92 ⟨Nat.le_refl _, Nat.le_refl _⟩ (fun H locs hR hS => ?_)
          refine lv_if_eq (tgt := 100) hx hb dX12_keeps_95 rfl (fun hc => ?_) (fun hc => ?_)
          · have hf := x_ip hc hf
            refine lv_iload_n hx hb dX12_keeps_100 rfl (lv_at hl 2 rfl) ?_
            refine lv_aload_n hx hb dX12_keeps_101 rfl (lv_at hl 0 rfl) ?_
            refine gf_12_1 C hR (x_k hR 64 rfl) tw_1544 dX12_keeps_102 ?_
            refine lv_iload_n hx hb dX12_keeps_105 rfl (lv_at hl 1 rfl) ?_
            obtain ⟨g16, hf⟩ := x_gd hf
            refine x_iald C hR (x_k1 (x_k hR 65 rfl)) (x_k2 (x_k hR 65 rfl) g16) dX12_keeps_106 ?_
            refine lv_iadd hx hb dX12_keeps_107 ?_
            obtain ⟨t17, et17, hf⟩ := x_lt hf
            refine x_nmi et17 ?_
            refine lv_istore (lv' := [(6, _), (0, _), (2, _), (3, _), (5, _)]) hx hb dX12_keeps_108 hl (Nat.le_of_ble_eq_true rfl) rfl (fun ls hl => ?_)
            refine lv_iconst (v := 0) hx hb dX12_keeps_110 rfl ?_
            refine lv_istore (lv' := [(7, _), (6, _), (0, _), (2, _), (3, _), (5, _)]) hx hb dX12_keeps_111 hl (Nat.le_of_ble_eq_true rfl) rfl (fun ls hl => ?_)
            exact B_X12_keeps_113  C  x_FU ls _ _ q15.2 _ _ _ _  (lv_sub hl [2, 3, 5, 1, 0] rfl) hR hS hf
          · have hf := x_in hc hf
            exact B_X12_keeps_98  C   ls _ _ q15.2  (lv_sub hl [] rfl) hR hS hf
        refine lv_icmp_ne (tgt := 90) hx hb dX12_keeps_83 rfl (fun hc => ?_) (fun hc => ?_)
        · try simp only [if_neg hc] at kM14
          refine lv_iconst (v := 0) hx hb dX12_keeps_90 rfl ?_
          exact kM14 ls _ _ (lv_sub hl [0, 1, 2, 4] rfl) hR hS
        · try simp only [if_pos hc] at kM14
          refine lv_iconst (v := 1) hx hb dX12_keeps_86 rfl ?_
          refine lv_goto (tgt := 91) hx hb dX12_keeps_87 rfl ?_
          exact kM14 ls _ _ (lv_sub hl [0, 1, 2, 4] rfl) hR hS
    refine lv_if_ge (tgt := 66) hx hb dX12_keeps_59 rfl (fun hc => ?_) (fun hc => ?_)
    · try simp only [if_pos hc] at kM11
      refine lv_iconst (v := 0) hx hb dX12_keeps_66 rfl ?_
      exact kM11 ls _ _ (lv_sub hl [0, 1, 2, 3, 4] rfl) hR hS
    · try simp only [if_neg hc] at kM11
      refine lv_iconst (v := 1) hx hb dX12_keeps_62 rfl ?_
      refine lv_goto (tgt := 67) hx hb dX12_keeps_63 rfl ?_
      exact kM11 ls _ _ (lv_sub hl [0, 1, 2, 3, 4] rfl) hR hS
  refine lv_if_ge (tgt := 52) hx hb dX12_keeps_42 rfl (fun hc => ?_) (fun hc => ?_)
  · try simp only [if_pos hc] at kM9
    refine lv_iconst (v := (-1)) hx hb dX12_keeps_52 rfl ?_
    exact kM9 ls _ _ (lv_sub hl [1, 3, 4, 5, 0] rfl) hR hS
  · try simp only [if_neg hc] at kM9
    refine lv_aload_n hx hb dX12_keeps_45 rfl (lv_at hl 1 rfl) ?_
    refine gf_12_8 C hR (x_k hR 64 rfl) tw_1551 dX12_keeps_46 ?_
    refine lv_goto (tgt := 53) hx hb dX12_keeps_49 rfl ?_
    exact kM9 ls _ _ (lv_sub hl [1, 3, 4, 5, 0] rfl) hR hS
def f_X12_law (x : Nat) (h : XH) : Option (Int32 × XH) := Option.bind (f_X12_keeps x h 0 2 0 3) (fun q1 => some (q1.1, q1.2))
set_option maxRecDepth 20000 in
theorem S_X12_law {l : Launch} {O : XO} {K : XK} {h : XH}  {r : Int32} {h' : XH}  (hf : f_X12_law (oX O) h = some (r, h')) : x_M l O K yX12_law cX12_law 1 (some .int) 75 1924 h [.ref (oX O + 64)] (some (.int r)) h' := by
  refine x_enter (by decide) (Nat.le_of_ble_eq_true rfl) (fun p e s m args below meth c C hR ls hl => ?_)
  have hS : va_S (oA O) s.heap s.heap [] := va_S.rf
  have hx := C.1
  have hb := C.2.1
  have hl : lv_has ls 1 [(0, .ref (oX O + 64))] := hl
  rw [f_X12_law] at hf
  refine lv_aload_n hx hb dX12_law_0 rfl (lv_at hl 0 rfl) ?_
  refine lv_iconst (v := 0) hx hb dX12_law_1 rfl ?_
  refine lv_iconst (v := 2) hx hb dX12_law_2 rfl ?_
  refine lv_iconst (v := 0) hx hb dX12_law_3 rfl ?_
  refine lv_iconst (v := 3) hx hb dX12_law_4 rfl ?_
  obtain ⟨q1, eq1, hf⟩ := x_bd hf
  refine x_cVi4 C hR hS (S_X12_keeps  eq1) (x_k hR 64 rfl) (by decide) rfl mf_X12_keeps tw_1640 (Nat.le_of_ble_eq_true rfl) (Nat.le_of_ble_eq_true rfl) hl.1 (Nat.le_of_ble_eq_true rfl) dX12_law_5 ⟨Nat.le_refl _, Nat.le_refl _⟩ (fun H locs hR hS => ?_)
  cases hf
  exact x_iret C hR hS dX12_law_8
def f_X12_rule (x : Nat) (h : XH) : Option (Int32 × XH) := Option.bind (f_X12_keeps x h 1 3 3 3) (fun q1 => some (q1.1, q1.2))
set_option maxRecDepth 20000 in
theorem S_X12_rule {l : Launch} {O : XO} {K : XK} {h : XH}  {r : Int32} {h' : XH}  (hf : f_X12_rule (oX O) h = some (r, h')) : x_M l O K yX12_rule cX12_rule 1 (some .int) 75 1924 h [.ref (oX O + 64)] (some (.int r)) h' := by
  refine x_enter (by decide) (Nat.le_of_ble_eq_true rfl) (fun p e s m args below meth c C hR ls hl => ?_)
  have hS : va_S (oA O) s.heap s.heap [] := va_S.rf
  have hx := C.1
  have hb := C.2.1
  have hl : lv_has ls 1 [(0, .ref (oX O + 64))] := hl
  rw [f_X12_rule] at hf
  refine lv_aload_n hx hb dX12_rule_0 rfl (lv_at hl 0 rfl) ?_
  refine lv_iconst (v := 1) hx hb dX12_rule_1 rfl ?_
  refine lv_iconst (v := 3) hx hb dX12_rule_2 rfl ?_
  refine lv_iconst (v := 3) hx hb dX12_rule_3 rfl ?_
  refine lv_iconst (v := 3) hx hb dX12_rule_4 rfl ?_
  obtain ⟨q1, eq1, hf⟩ := x_bd hf
  refine x_cVi4 C hR hS (S_X12_keeps  eq1) (x_k hR 64 rfl) (by decide) rfl mf_X12_keeps tw_1640 (Nat.le_of_ble_eq_true rfl) (Nat.le_of_ble_eq_true rfl) hl.1 (Nat.le_of_ble_eq_true rfl) dX12_rule_5 ⟨Nat.le_refl _, Nat.le_refl _⟩ (fun H locs hR hS => ?_)
  cases hf
  exact x_iret C hR hS dX12_rule_8
