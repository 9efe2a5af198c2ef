def f_X12_noRole (h : XH) (v0 : Int32) : Int32 := (if (f_X12_in h v0 0 2) = 0 then 1 else 0)
set_option maxRecDepth 20000 in
theorem S_X12_noRole {l : Launch} {O : XO} {K : XK} {h : XH} {v0 : Int32}  {r : Int32}  (hf : f_X12_noRole h v0 = r) : x_M l O K yX12_noRole cX12_noRole 1 (some .boolean) 1 22 h [.int v0] (some (.int r)) h := by
  refine x_enter (by decide) (Nat.le_of_ble_eq_true rfl) (fun p e s m args below meth c C hR ls hl => ?_)
  have hS : va_S (oA O) s.heap s.heap [] := va_S.rf
  have hx := C.1
  have hb := C.2.1
  have hl : lv_has ls 1 [(0, .int v0)] := hl
  rw [f_X12_noRole] at hf
  refine lv_iload_n hx hb dX12_noRole_0 rfl (lv_at hl 0 rfl) ?_
  refine lv_iconst (v := 0) hx hb dX12_noRole_1 rfl ?_
  refine lv_iconst (v := 2) hx hb dX12_noRole_2 rfl ?_
  refine x_cSi3 C hR hS (S_X12_in  rfl) mf_X12_in tw_1756 (Nat.le_of_ble_eq_true rfl) (Nat.le_of_ble_eq_true rfl) hl.1 (Nat.le_of_ble_eq_true rfl) dX12_noRole_3 ⟨Nat.le_refl _, Nat.le_refl _⟩ (fun H locs hR hS => ?_)
  have kM1 : ∀ (ls : Array Slot) (H : Heap) (locs : List Loc), lv_has ls 1 [] → x_R O K h H → va_S (oA O) s.heap H locs → W p l e (x_rm 1 22) s m args below meth c H locs 0 0 (MQ below (x_Qc O K h (some (.int r))) args s 0 0 (oA O)) (F0 m 14 ls [.int (if (f_X12_in h v0 0 2) = 0 then 1 else 0)]) := by
    intro ls H locs hl hR hS
    cases hf
    exact x_zret C hR hS (by (repeat' split) <;> first | exact Or.inl rfl | exact Or.inr rfl) dX12_noRole_14
  refine lv_if_ne (tgt := 13) hx hb dX12_noRole_6 rfl (fun hc => ?_) (fun hc => ?_)
  · try simp only [if_neg hc] at kM1
    refine lv_iconst (v := 0) hx hb dX12_noRole_13 rfl ?_
    exact kM1 ls _ _ (lv_sub hl [] rfl) hR hS
  · try simp only [if_pos hc] at kM1
    refine lv_iconst (v := 1) hx hb dX12_noRole_9 rfl ?_
    refine lv_goto (tgt := 14) hx hb dX12_noRole_10 rfl ?_
    exact kM1 ls _ _ (lv_sub hl [] rfl) hR hS
def f_X12_dullOf (x : Nat) (h : XH) (v1 : Int32) (v2 : Int32) : Option Int32 := if x_b ((8 + (3 * v1)) + v2) 6927 = true then some (h.1 (x + 65) ((8 + (3 * v1)) + v2).toNatClampNeg) else none
set_option maxRecDepth 20000 in
theorem S_X12_dullOf {l : Launch} {O : XO} {K : XK} {h : XH} {v1 : Int32} {v2 : Int32}  {r : Int32}  (hf : f_X12_dullOf (oX O) h v1 v2 = some r) : x_M l O K yX12_dullOf cX12_dullOf 3 (some .int) 0 0 h [.ref (oX O + 64), .int v1, .int v2] (some (.int r)) h := by
  refine x_enter (by decide) (Nat.le_of_ble_eq_true rfl) (fun p e s m args below meth c C hR ls hl => ?_)
  have hS : va_S (oA O) s.heap s.heap [] := va_S.rf
  have hx := C.1
  have hb := C.2.1
  have hl : lv_has ls 3 [(0, .ref (oX O + 64)), (1, .int v1), (2, .int v2)] := hl
  rw [f_X12_dullOf] at hf
  refine lv_aload_n hx hb dX12_dullOf_0 rfl (lv_at hl 0 rfl) ?_
  refine gf_12_1 C hR (x_k hR 64 rfl) tw_1544 dX12_dullOf_1 ?_
  refine lv_bipush (v := 8) hx hb dX12_dullOf_4 rfl ?_
  refine lv_iconst (v := 3) hx hb dX12_dullOf_6 rfl ?_
  refine lv_iload_n hx hb dX12_dullOf_7 rfl (lv_at hl 1 rfl) ?_
  refine lv_imul hx hb dX12_dullOf_8 ?_
  refine lv_iadd hx hb dX12_dullOf_9 ?_
  refine lv_iload_n hx hb dX12_dullOf_10 rfl (lv_at hl 2 rfl) ?_
  refine lv_iadd hx hb dX12_dullOf_11 ?_
  obtain ⟨g1, hf⟩ := x_gd hf
  refine x_iald C hR (x_k1 (x_k hR 65 rfl)) (x_k2 (x_k hR 65 rfl) g1) dX12_dullOf_12 ?_
  cases hf
  exact x_iret C hR hS dX12_dullOf_13
def f_X12_dull_55 (x : Nat) (h : XH) : Option (Int32 × XH) := some (0, h)
def f_X12_dull (x : Nat) (h : XH) (v1 : Int32) (v2 : Int32) (v3 : Int32) : Option (Int32 × XH) := x_let (x_i h (x + 64) 0 0) (fun h1 => Option.bind (f_X12_throwsIf x h1 (if (f_X12_noCard h1 v1) = 0 then (if (f_X12_noRole h1 v2) = 0 then 0 else 1) else 1) 1) (fun q3 => if q3.1 = 0 then Option.bind (f_X12_throwsIf x q3.2 (if (f_X12_in q3.2 v3 0 9) = 0 then 1 else 0) 2) (fun q5 => if q5.1 = 0 then Option.bind (f_X12_dullOf x q5.2 v1 v2) (fun v_6 => if x_b ((8 + (3 * v1)) + v2) 6927 = true then x_let (x_i q5.2 (x + 65) ((8 + (3 * v1)) + v2).toNatClampNeg v3) (fun h8 => some (v_6, h8)) else none) else f_X12_dull_55 x q5.2) else f_X12_dull_55 x q3.2))
set_option maxRecDepth 20000 in
theorem B_X12_dull_55 {p : Program} {l : Launch} {e : Env} {s : State} {m : MethodId} {args : Array Value} {below : List Frame} {meth : Method} {c : Code} {O : XO} {K : XK} {r : Int32} {h' : XH}   (C : x_C p s m args meth c O cX12_dull 5 RX12 (some .int))   (ls : Array Slot) (H : Heap) (locs : List Loc) (h : XH) (hl : lv_has ls 5 []) (hR : x_R O K h H) (hS : va_S (oA O) s.heap H locs) (hf : f_X12_dull_55 (oX O) h = some (r, h')) : W p l e (x_rm 2 42) s m args below meth c H locs 0 0 (MQ below (x_Qc O K h' (some (.int r))) args s 0 0 (oA O)) (F0 m 55 ls []) := by
  have hx := C.1
  have hb := C.2.1
  rw [f_X12_dull_55] at hf
  refine lv_iconst (v := 0) hx hb dX12_dull_55 rfl ?_
  cases hf
  exact x_iret C hR hS dX12_dull_56
set_option maxRecDepth 20000 in
theorem S_X12_dull {l : Launch} {O : XO} {K : XK} {h : XH} {v1 : Int32} {v2 : Int32} {v3 : Int32}  {r : Int32} {h' : XH}  (hf : f_X12_dull (oX O) h v1 v2 v3 = some (r, h')) : x_M l O K yX12_dull cX12_dull 5 (some .int) 2 42 h [.ref (oX O + 64), .int v1, .int v2, .int v3] (some (.int r)) h' := by
  refine x_enter (by decide) (Nat.le_of_ble_eq_true rfl) (fun p e s m args below meth c C hR ls hl => ?_)
  have hS : va_S (oA O) s.heap s.heap [] := va_S.rf
  have hx := C.1
  have hb := C.2.1
  have hl : lv_has ls 5 [(0, .ref (oX O + 64)), (1, .int v1), (2, .int v2), (3, .int v3)] := hl
  rw [f_X12_dull] at hf
  refine lv_aload_n hx hb dX12_dull_0 rfl (lv_at hl 0 rfl) ?_
  refine lv_iconst (v := 0) hx hb dX12_dull_1 rfl ?_
  obtain ⟨h1, eh1, hf⟩ := x_lt hf
  refine pf_12_0 C hR hS (x_k hR 64 rfl) tw_1543 dX12_dull_2 (fun H locs hR hS => ?_)
  rw [← eh1] at hR
  refine lv_aload_n hx hb dX12_dull_5 rfl (lv_at hl 0 rfl) ?_
  refine lv_iload_n hx hb dX12_dull_6 rfl (lv_at hl 1 rfl) ?_
  refine x_cSi1 C hR hS (S_X12_noCard  rfl) mf_X12_noCard tw_1753 (Nat.le_of_ble_eq_true rfl) (Nat.le_of_ble_eq_true rfl) hl.1 (Nat.le_of_ble_eq_true rfl) dX12_dull_7 ⟨Nat.le_refl _, Nat.le_refl _⟩ (fun H locs hR hS => ?_)
  have kM2 : ∀ (ls : Array Slot) (H : Heap) (locs : List Loc), lv_has ls 5 [(0, .ref (oX O + 64)), (1, .int v1), (2, .int v2), (3, .int v3)] → x_R O K h1 H → va_S (oA O) s.heap H locs → W p l e (x_rm 2 42) s m args below meth c H locs 0 0 (MQ below (x_Qc O K h' (some (.int r))) args s 0 0 (oA O)) (F0 m 25 ls [.int (if (f_X12_noCard h1 v1) = 0 then (if (f_X12_noRole h1 v2) = 0 then 0 else 1) else 1), .ref (oX O + 64)]) := by
    intro ls H locs hl hR hS
    refine lv_iconst (v := 1) hx hb dX12_dull_25 rfl ?_
    obtain ⟨q3, eq3, hf⟩ := x_bd hf
    refine x_cVi2 C hR hS (S_X12_throwsIf  eq3) (x_k hR 64 rfl) (by decide) rfl mf_X12_throwsIf tw_1741 (Nat.le_of_ble_eq_true rfl) (Nat.le_of_ble_eq_true rfl) hl.1 (Nat.le_of_ble_eq_true rfl) dX12_dull_26 ⟨Nat.le_refl _, Nat.le_refl _⟩ (fun H locs hR hS => ?_)
    refine lv_if_ne (tgt := 55) hx hb dX12_dull_29 rfl (fun hc => ?_) (fun hc => ?_)
    · have hf := x_in hc hf
      exact B_X12_dull_55  C   ls _ _ q3.2  (lv_sub hl [] rfl) hR hS hf
    · have hf := x_ip hc hf
      refine lv_aload_n hx hb dX12_dull_32 rfl (lv_at hl 0 rfl) ?_
      refine lv_iload_n hx hb dX12_dull_33 rfl (lv_at hl 3 rfl) ?_
      refine lv_iconst (v := 0) hx hb dX12_dull_34 rfl ?_
      refine lv_bipush (v := 9) hx hb dX12_dull_35 rfl ?_
      refine x_cSi3 C hR hS (S_X12_in  rfl) mf_X12_in tw_1756 (Nat.le_of_ble_eq_true rfl) (Nat.le_of_ble_eq_true rfl) hl.1 (Nat.le_of_ble_eq_true rfl) dX12_dull_37 ⟨Nat.le_refl _, Nat.le_refl _⟩ (fun H locs hR hS => ?_)
      have kM4 : ∀ (ls : Array Slot) (H : Heap) (locs : List Loc), lv_has ls 5 [(0, .ref (oX O + 64)), (1, .int v1), (2, .int v2), (3, .int v3)] → x_R O K q3.2 H → va_S (oA O) s.heap H locs → W p l e (x_rm 2 42) s m args below meth c H locs 0 0 (MQ below (x_Qc O K h' (some (.int r))) args s 0 0 (oA O)) (F0 m 48 ls [.int (if (f_X12_in q3.2 v3 0 9) = 0 then 1 else 0), .ref (oX O + 64)]) := by
        intro ls H locs hl hR hS
        refine lv_iconst (v := 2) hx hb dX12_dull_48 rfl ?_
        obtain ⟨q5, eq5, hf⟩ := x_bd hf
        refine x_cVi2 C hR hS (S_X12_throwsIf  eq5) (x_k hR 64 rfl) (by decide) rfl mf_X12_throwsIf tw_1741 (Nat.le_of_ble_eq_true rfl) (Nat.le_of_ble_eq_true rfl) hl.1 (Nat.le_of_ble_eq_true rfl) dX12_dull_49 ⟨Nat.le_refl _, Nat.le_refl _⟩ (fun H locs hR hS => ?_)
        refine lv_if_eq (tgt := 57) hx hb dX12_dull_52 rfl (fun hc => ?_) (fun hc => ?_)
        · have hf := x_ip hc hf
          refine lv_aload_n hx hb dX12_dull_57 rfl (lv_at hl 0 rfl) ?_
          refine lv_iload_n hx hb dX12_dull_58 rfl (lv_at hl 1 rfl) ?_
          refine lv_iload_n hx hb dX12_dull_59 rfl (lv_at hl 2 rfl) ?_
          obtain ⟨v_6, ev_6, hf⟩ := x_bd hf
          refine x_cVi2 C hR hS (S_X12_dullOf  ev_6) (x_k hR 64 rfl) (by decide) rfl mf_X12_dullOf tw_1762 (Nat.le_of_ble_eq_true rfl) (Nat.le_of_ble_eq_true rfl) hl.1 (Nat.le_of_ble_eq_true rfl) dX12_dull_60 ⟨Nat.le_refl _, Nat.le_refl _⟩ (fun H locs hR hS => ?_)
          refine lv_istore (lv' := [(4, _), (0, _), (1, _), (2, _), (3, _)]) hx hb dX12_dull_63 hl (Nat.le_of_ble_eq_true rfl) rfl (fun ls hl => ?_)
          refine lv_aload_n hx hb dX12_dull_65 rfl (lv_at hl 1 rfl) ?_
          refine gf_12_1 C hR (x_k hR 64 rfl) tw_1544 dX12_dull_66 ?_
          refine lv_bipush (v := 8) hx hb dX12_dull_69 rfl ?_
          refine lv_iconst (v := 3) hx hb dX12_dull_71 rfl ?_
          refine lv_iload_n hx hb dX12_dull_72 rfl (lv_at hl 2 rfl) ?_
          refine lv_imul hx hb dX12_dull_73 ?_
          refine lv_iadd hx hb dX12_dull_74 ?_
          refine lv_iload_n hx hb dX12_dull_75 rfl (lv_at hl 3 rfl) ?_
          refine lv_iadd hx hb dX12_dull_76 ?_
          refine lv_iload_n hx hb dX12_dull_77 rfl (lv_at hl 4 rfl) ?_
          obtain ⟨g7, hf⟩ := x_gd hf
          obtain ⟨h8, eh8, hf⟩ := x_lt hf
          refine x_iast C hR hS (x_k1 (x_k hR 65 rfl)) (x_k2 (x_k hR 65 rfl) g7) dX12_dull_78 (fun H locs hR hS => ?_)
          rw [← eh8] at hR
          refine lv_iload hx hb dX12_dull_79 (lv_at hl 0 rfl) ?_
          cases hf
          exact x_iret C hR hS dX12_dull_81
        · have hf := x_in hc hf
          exact B_X12_dull_55  C   ls _ _ q5.2  (lv_sub hl [] rfl) hR hS hf
      refine lv_if_ne (tgt := 47) hx hb dX12_dull_40 rfl (fun hc => ?_) (fun hc => ?_)
      · try simp only [if_neg hc] at kM4
        refine lv_iconst (v := 0) hx hb dX12_dull_47 rfl ?_
        exact kM4 ls _ _ (lv_sub hl [0, 1, 2, 3] rfl) hR hS
      · try simp only [if_pos hc] at kM4
        refine lv_iconst (v := 1) hx hb dX12_dull_43 rfl ?_
        refine lv_goto (tgt := 48) hx hb dX12_dull_44 rfl ?_
        exact kM4 ls _ _ (lv_sub hl [0, 1, 2, 3] rfl) hR hS
  refine lv_if_ne (tgt := 20) hx hb dX12_dull_10 rfl (fun hc => ?_) (fun hc => ?_)
  · try simp only [if_neg hc] at kM2
    refine lv_iconst (v := 1) hx hb dX12_dull_20 rfl ?_
    refine lv_goto (tgt := 25) hx hb dX12_dull_21 rfl ?_
    exact kM2 ls _ _ (lv_sub hl [0, 1, 2, 3] rfl) hR hS
  · try simp only [if_pos hc] at kM2
    refine lv_iload_n hx hb dX12_dull_13 rfl (lv_at hl 2 rfl) ?_
    refine x_cSi1 C hR hS (S_X12_noRole  rfl) mf_X12_noRole tw_1759 (Nat.le_of_ble_eq_true rfl) (Nat.le_of_ble_eq_true rfl) hl.1 (Nat.le_of_ble_eq_true rfl) dX12_dull_14 ⟨Nat.le_refl _, Nat.le_refl _⟩ (fun H locs hR hS => ?_)
    refine lv_if_eq (tgt := 24) hx hb dX12_dull_17 rfl (fun hc => ?_) (fun hc => ?_)
    · try simp only [if_pos hc] at kM2
      refine lv_iconst (v := 0) hx hb dX12_dull_24 rfl ?_
      exact kM2 ls _ _ (lv_sub hl [0, 1, 2, 3] rfl) hR hS
    · try simp only [if_neg hc] at kM2
      refine lv_iconst (v := 1) hx hb dX12_dull_20 rfl ?_
      refine lv_goto (tgt := 25) hx hb dX12_dull_21 rfl ?_
      exact kM2 ls _ _ (lv_sub hl [0, 1, 2, 3] rfl) hR hS
def f_X12_doors (x : Nat) (h : XH) (v1 : Int32) : Option Int32 := if x_b (164 + (21 * v1)) 6927 = true then some (h.1 (x + 65) (164 + (21 * v1)).toNatClampNeg) else none
set_option maxRecDepth 20000 in
theorem S_X12_doors {l : Launch} {O : XO} {K : XK} {h : XH} {v1 : Int32}  {r : Int32}  (hf : f_X12_doors (oX O) h v1 = some r) : x_M l O K yX12_doors cX12_doors 2 (some .int) 0 0 h [.ref (oX O + 64), .int v1] (some (.int r)) h := by
  refine x_enter (by decide) (Nat.le_of_ble_eq_true rfl) (fun p e s m args below meth c C hR ls hl => ?_)
  have hS : va_S (oA O) s.heap s.heap [] := va_S.rf
  have hx := C.1
  have hb := C.2.1
  have hl : lv_has ls 2 [(0, .ref (oX O + 64)), (1, .int v1)] := hl
  rw [f_X12_doors] at hf
  refine lv_aload_n hx hb dX12_doors_0 rfl (lv_at hl 0 rfl) ?_
  refine gf_12_1 C hR (x_k hR 64 rfl) tw_1544 dX12_doors_1 ?_
  refine lv_sipush (v := 164) hx hb dX12_doors_4 rfl ?_
  refine lv_bipush (v := 21) hx hb dX12_doors_7 rfl ?_
  refine lv_iload_n hx hb dX12_doors_9 rfl (lv_at hl 1 rfl) ?_
  refine lv_imul hx hb dX12_doors_10 ?_
  refine lv_iadd hx hb dX12_doors_11 ?_
  obtain ⟨g1, hf⟩ := x_gd hf
  refine x_iald C hR (x_k1 (x_k hR 65 rfl)) (x_k2 (x_k hR 65 rfl) g1) dX12_doors_12 ?_
  cases hf
  exact x_iret C hR hS dX12_doors_13
def f_X12_lookOf (x : Nat) (h : XH) (v1 : Int32) (v2 : Int32) : Option Int32 := if x_b (((164 + (21 * v1)) + 1) + v2) 6927 = true then some (h.1 (x + 65) (((164 + (21 * v1)) + 1) + v2).toNatClampNeg) else none
set_option maxRecDepth 20000 in
theorem S_X12_lookOf {l : Launch} {O : XO} {K : XK} {h : XH} {v1 : Int32} {v2 : Int32}  {r : Int32}  (hf : f_X12_lookOf (oX O) h v1 v2 = some r) : x_M l O K yX12_lookOf cX12_lookOf 3 (some .int) 0 0 h [.ref (oX O + 64), .int v1, .int v2] (some (.int r)) h := by
  refine x_enter (by decide) (Nat.le_of_ble_eq_true rfl) (fun p e s m args below meth c C hR ls hl => ?_)
  have hS : va_S (oA O) s.heap s.heap [] := va_S.rf
  have hx := C.1
  have hb := C.2.1
  have hl : lv_has ls 3 [(0, .ref (oX O + 64)), (1, .int v1), (2, .int v2)] := hl
  rw [f_X12_lookOf] at hf
  refine lv_aload_n hx hb dX12_lookOf_0 rfl (lv_at hl 0 rfl) ?_
  refine gf_12_1 C hR (x_k hR 64 rfl) tw_1544 dX12_lookOf_1 ?_
  refine lv_sipush (v := 164) hx hb dX12_lookOf_4 rfl ?_
  refine lv_bipush (v := 21) hx hb dX12_lookOf_7 rfl ?_
  refine lv_iload_n hx hb dX12_lookOf_9 rfl (lv_at hl 1 rfl) ?_
  refine lv_imul hx hb dX12_lookOf_10 ?_
  refine lv_iadd hx hb dX12_lookOf_11 ?_
  refine lv_iconst (v := 1) hx hb dX12_lookOf_12 rfl ?_
  refine lv_iadd hx hb dX12_lookOf_13 ?_
  refine lv_iload_n hx hb dX12_lookOf_14 rfl (lv_at hl 2 rfl) ?_
  refine lv_iadd hx hb dX12_lookOf_15 ?_
  obtain ⟨g1, hf⟩ := x_gd hf
  refine x_iald C hR (x_k1 (x_k hR 65 rfl)) (x_k2 (x_k hR 65 rfl) g1) dX12_lookOf_16 ?_
  cases hf
  exact x_iret C hR hS dX12_lookOf_17
def f_X12_house_52 (x : Nat) (h : XH) : Option (Int32 × XH) := some (0, h)
def f_X12_house_77 (x : Nat) : Nat → XH → Int32 → Int32 → Option (Int32 × XH)
  | 0, _, _, _ => none
  | n + 1, h, v2, v3 => if 20 ≤ v3 then if x_b 0 6927 = true then if x_b 0 6927 = true then x_let (x_i h (x + 65) (0 : Int32).toNatClampNeg ((h.1 (x + 65) (0 : Int32).toNatClampNeg) + 1)) (fun h13 => some (v2, h13)) else none else none else if x_b (((164 + (21 * v2)) + 1) + v3) 6927 = true then x_let (x_i h (x + 65) (((164 + (21 * v2)) + 1) + v3).toNatClampNeg (x_rem v3 10)) (fun h15 => f_X12_house_77 x n h15 v2 (v3 + 1)) else none
def f_X12_house (x : Nat) (h : XH) (v1 : Int32) : Option (Int32 × XH) := x_let (x_i h (x + 64) 0 0) (fun h1 => Option.bind (f_X12_throwsIf x h1 (if (f_X12_in h1 v1 1 20) = 0 then 1 else 0) 1) (fun q3 => if q3.1 = 0 then if x_b 0 6927 = true then Option.bind (f_X12_throwsIf x q3.2 (if (q3.2.1 (x + 65) (0 : Int32).toNatClampNeg) = 6 then 1 else 0) 2) (fun q6 => if q6.1 = 0 then if x_b 0 6927 = true then x_let ((q6.2.1 (x + 65) (0 : Int32).toNatClampNeg) : Int32) (fun t8 => if x_b (164 + (21 * t8)) 6927 = true then x_let (x_i q6.2 (x + 65) (164 + (21 * t8)).toNatClampNeg v1) (fun h10 => f_X12_house_77 x x_FU h10 t8 0) else none) else none else f_X12_house_52 x q6.2) else none else f_X12_house_52 x q3.2))
set_option maxRecDepth 20000 in
theorem B_X12_house_52 {p : Program} {l : Launch} {e : Env} {s : State} {m : MethodId} {args : Array Value} {below : List Frame} {meth : Method} {c : Code} {O : XO} {K : XK} {r : Int32} {h' : XH}   (C : x_C p s m args meth c O cX12_house 4 RX12 (some .int))   (ls : Array Slot) (H : Heap) (locs : List Loc) (h : XH) (hl : lv_has ls 4 []) (hR : x_R O K h H) (hS : va_S (oA O) s.heap H locs) (hf : f_X12_house_52 (oX O) h = some (r, h')) : W p l e (x_rm 1 22) s m args below meth c H locs 0 0 (MQ below (x_Qc O K h' (some (.int r))) args s 0 0 (oA O)) (F0 m 52 ls []) := by
  have hx := C.1
  have hb := C.2.1
  rw [f_X12_house_52] at hf
  refine lv_iconst (v := 0) hx hb dX12_house_52 rfl ?_
  cases hf
  exact x_iret C hR hS dX12_house_53
set_option maxRecDepth 20000 in
theorem B_X12_house_77 {p : Program} {l : Launch} {e : Env} {s : State} {m : MethodId} {args : Array Value} {below : List Frame} {meth : Method} {c : Code} {O : XO} {K : XK} {r : Int32} {h' : XH}   (C : x_C p s m args meth c O cX12_house 4 RX12 (some .int))   : ∀ (n : Nat) (ls : Array Slot) (H : Heap) (locs : List Loc) (h : XH) (v2 : Int32) (v3 : Int32) (hl : lv_has ls 4 [(0, .ref (oX O + 64)), (2, .int v2), (3, .int v3)]) (hR : x_R O K h H) (hS : va_S (oA O) s.heap H locs) (hf : f_X12_house_77 (oX O) n h v2 v3 = some (r, h')), W p l e (x_rm 1 22) s m args below meth c H locs 0 0 (MQ below (x_Qc O K h' (some (.int r))) args s 0 0 (oA O)) (F0 m 77 ls []) := by
  have hx := C.1
  have hb := C.2.1
  intro n
  induction n with
  | zero =>
    intro ls H locs h v2 v3 hl hR hS hf
    rw [f_X12_house_77] at hf
    cases hf
  | succ n ih =>
    intro ls H locs h v2 v3 hl hR hS hf
    rw [f_X12_house_77] at hf
    refine lv_iload_n hx hb dX12_house_77 rfl (lv_at hl 2 rfl) ?_
    refine lv_bipush (v := 20) hx hb dX12_house_78 rfl ?_
    refine lv_icmp_ge (tgt := 110) hx hb dX12_house_80 rfl (fun hc => ?_) (fun hc => ?_)
    · have hf := x_ip hc hf
      refine lv_aload_n hx hb dX12_house_110 rfl (lv_at hl 0 rfl) ?_
      refine gf_12_1 C hR (x_k hR 64 rfl) tw_1544 dX12_house_111 ?_
      refine lv_iconst (v := 0) hx hb dX12_house_114 rfl ?_
      refine lv_dup2_11 hx hb dX12_house_115 rfl rfl ?_
      obtain ⟨g11, hf⟩ := x_gd hf
      refine x_iald C hR (x_k1 (x_k hR 65 rfl)) (x_k2 (x_k hR 65 rfl) g11) dX12_house_116 ?_
      refine lv_iconst (v := 1) hx hb dX12_house_117 rfl ?_
      refine lv_iadd hx hb dX12_house_118 ?_
      obtain ⟨g12, hf⟩ := x_gd hf
      obtain ⟨h13, eh13, hf⟩ := x_lt hf
      refine x_iast C hR hS (x_k1 (x_k hR 65 rfl)) (x_k2 (x_k hR 65 rfl) g12) dX12_house_119 (fun H locs hR hS => ?_)
      rw [← eh13] at hR
      refine lv_iload_n hx hb dX12_house_120 rfl (lv_at hl 1 rfl) ?_
      cases hf
      exact x_iret C hR hS dX12_house_121
    · have hf := x_in hc hf
      refine lv_aload_n hx hb dX12_house_83 rfl (lv_at hl 0 rfl) ?_
      refine gf_12_1 C hR (x_k hR 64 rfl) tw_1544 dX12_house_84 ?_
      refine lv_sipush (v := 164) hx hb dX12_house_87 rfl ?_
      refine lv_bipush (v := 21) hx hb dX12_house_90 rfl ?_
      refine lv_iload_n hx hb dX12_house_92 rfl (lv_at hl 1 rfl) ?_
      refine lv_imul hx hb dX12_house_93 ?_
      refine lv_iadd hx hb dX12_house_94 ?_
      refine lv_iconst (v := 1) hx hb dX12_house_95 rfl ?_
      refine lv_iadd hx hb dX12_house_96 ?_
      refine lv_iload_n hx hb dX12_house_97 rfl (lv_at hl 2 rfl) ?_
      refine lv_iadd hx hb dX12_house_98 ?_
      refine lv_iload_n hx hb dX12_house_99 rfl (lv_at hl 2 rfl) ?_
      refine lv_bipush (v := 10) hx hb dX12_house_100 rfl ?_
      refine lv_irem hx hb dX12_house_102 (by decide) ?_
      obtain ⟨g14, hf⟩ := x_gd hf
      obtain ⟨h15, eh15, hf⟩ := x_lt hf
      refine x_iast C hR hS (x_k1 (x_k hR 65 rfl)) (x_k2 (x_k hR 65 rfl) g14) dX12_house_103 (fun H locs hR hS => ?_)
      rw [← eh15] at hR
      refine lv_iinc (k := 2) (v := _ + 1) (lv' := [(3, _), (0, _), (2, _)]) hx hb dX12_house_104 hl rfl (x_inc 1 1 rfl _) (Nat.le_of_ble_eq_true rfl) rfl (fun ls hl => ?_)
      refine lv_goto (tgt := 77) hx hb dX12_house_107 rfl ?_
      exact ih ls _ _ h15 _ _  (lv_sub hl [1, 2, 0] rfl) hR hS hf
set_option maxRecDepth 20000 in
theorem S_X12_house {l : Launch} {O : XO} {K : XK} {h : XH} {v1 : Int32}  {r : Int32} {h' : XH}  (hf : f_X12_house (oX O) h v1 = some (r, h')) : x_M l O K yX12_house cX12_house 4 (some .int) 1 22 h [.ref (oX O + 64), .int v1] (some (.int r)) h' := by
  refine x_enter (by decide) (Nat.le_of_ble_eq_true rfl) (fun p e s m args below meth c C hR ls hl => ?_)
  have hS : va_S (oA O) s.heap s.heap [] := va_S.rf
  have hx := C.1
  have hb := C.2.1
  have hl : lv_has ls 4 [(0, .ref (oX O + 64)), (1, .int v1)] := hl
  rw [f_X12_house] at hf
  refine lv_aload_n hx hb dX12_house_0 rfl (lv_at hl 0 rfl) ?_
  refine lv_iconst (v := 0) hx hb dX12_house_1 rfl ?_
  obtain ⟨h1, eh1, hf⟩ := x_lt hf
  refine pf_12_0 C hR hS (x_k hR 64 rfl) tw_1543 dX12_house_2 (fun H locs hR hS => ?_)
  rw [← eh1] at hR
  refine lv_aload_n hx hb dX12_house_5 rfl (lv_at hl 0 rfl) ?_
  refine lv_iload_n hx hb dX12_house_6 rfl (lv_at hl 1 rfl) ?_
  refine lv_iconst (v := 1) hx hb dX12_house_7 rfl ?_
  refine lv_bipush (v := 20) hx hb dX12_house_8 rfl ?_
  refine x_cSi3 C hR hS (S_X12_in  rfl) mf_X12_in tw_1756 (Nat.le_of_ble_eq_true rfl) (Nat.le_of_ble_eq_true rfl) hl.1 (Nat.le_of_ble_eq_true rfl) dX12_house_10 ⟨Nat.le_refl _, Nat.le_refl _⟩ (fun H locs hR hS => ?_)
  have kM2 : ∀ (ls : Array Slot) (H : Heap) (locs : List Loc), lv_has ls 4 [(0, .ref (oX O + 64)), (1, .int v1)] → x_R O K h1 H → va_S (oA O) s.heap H locs → W p l e (x_rm 1 22) s m args below meth c H locs 0 0 (MQ below (x_Qc O K h' (some (.int r))) args s 0 0 (oA O)) (F0 m 21 ls [.int (if (f_X12_in h1 v1 1 20) = 0 then 1 else 0), .ref (oX O + 64)]) := by
    intro ls H locs hl hR hS
    refine lv_iconst (v := 1) hx hb dX12_house_21 rfl ?_
    obtain ⟨q3, eq3, hf⟩ := x_bd hf
    refine x_cVi2 C hR hS (S_X12_throwsIf  eq3) (x_k hR 64 rfl) (by decide) rfl mf_X12_throwsIf tw_1741 (Nat.le_of_ble_eq_true rfl) (Nat.le_of_ble_eq_true rfl) hl.1 (Nat.le_of_ble_eq_true rfl) dX12_house_22 ⟨Nat.le_refl _, Nat.le_refl _⟩ (fun H locs hR hS => ?_)
    refine lv_if_ne (tgt := 52) hx hb dX12_house_25 rfl (fun hc => ?_) (fun hc => ?_)
    · have hf := x_in hc hf
      exact B_X12_house_52  C   ls _ _ q3.2  (lv_sub hl [] rfl) hR hS hf
    · have hf := x_ip hc hf
      refine lv_aload_n hx hb dX12_house_28 rfl (lv_at hl 0 rfl) ?_
      refine lv_aload_n hx hb dX12_house_29 rfl (lv_at hl 0 rfl) ?_
      refine gf_12_1 C hR (x_k hR 64 rfl) tw_1544 dX12_house_30 ?_
      refine lv_iconst (v := 0) hx hb dX12_house_33 rfl ?_
      obtain ⟨g4, hf⟩ := x_gd hf
      refine x_iald C hR (x_k1 (x_k hR 65 rfl)) (x_k2 (x_k hR 65 rfl) g4) dX12_house_34 ?_
      refine lv_bipush (v := 6) hx hb dX12_house_35 rfl ?_
      have kM5 : ∀ (ls : Array Slot) (H : Heap) (locs : List Loc), lv_has ls 4 [(0, .ref (oX O + 64)), (1, .int v1)] → x_R O K q3.2 H → va_S (oA O) s.heap H locs → W p l e (x_rm 1 22) s m args below meth c H locs 0 0 (MQ below (x_Qc O K h' (some (.int r))) args s 0 0 (oA O)) (F0 m 45 ls [.int (if (q3.2.1 (oX O + 65) (0 : Int32).toNatClampNeg) = 6 then 1 else 0), .ref (oX O + 64)]) := by
        intro ls H locs hl hR hS
        refine lv_iconst (v := 2) hx hb dX12_house_45 rfl ?_
        obtain ⟨q6, eq6, hf⟩ := x_bd hf
        refine x_cVi2 C hR hS (S_X12_throwsIf  eq6) (x_k hR 64 rfl) (by decide) rfl mf_X12_throwsIf tw_1741 (Nat.le_of_ble_eq_true rfl) (Nat.le_of_ble_eq_true rfl) hl.1 (Nat.le_of_ble_eq_true rfl) dX12_house_46 ⟨Nat.le_refl _, Nat.le_refl _⟩ (fun H locs hR hS => ?_)
        refine lv_if_eq (tgt := 54) hx hb dX12_house_49 rfl (fun hc => ?_) (fun hc => ?_)
        · have hf := x_ip hc hf
          refine lv_aload_n hx hb dX12_house_54 rfl (lv_at hl 0 rfl) ?_
          refine gf_12_1 C hR (x_k hR 64 rfl) tw_1544 dX12_house_55 ?_
          refine lv_iconst (v := 0) hx hb dX12_house_58 rfl ?_
          obtain ⟨g7, hf⟩ := x_gd hf
          refine x_iald C hR (x_k1 (x_k hR 65 rfl)) (x_k2 (x_k hR 65 rfl) g7) dX12_house_59 ?_
          obtain ⟨t8, et8, hf⟩ := x_lt hf
          refine x_nmi et8 ?_
          refine lv_istore_n (lv' := [(2, _), (0, _), (1, _)]) hx hb dX12_house_60 rfl hl (Nat.le_of_ble_eq_true rfl) rfl (fun ls hl => ?_)
          refine lv_aload_n hx hb dX12_house_61 rfl (lv_at hl 1 rfl) ?_
          refine gf_12_1 C hR (x_k hR 64 rfl) tw_1544 dX12_house_62 ?_
          refine lv_sipush (v := 164) hx hb dX12_house_65 rfl ?_
          refine lv_bipush (v := 21) hx hb dX12_house_68 rfl ?_
          refine lv_iload_n hx hb dX12_house_70 rfl (lv_at hl 0 rfl) ?_
          refine lv_imul hx hb dX12_house_71 ?_
          refine lv_iadd hx hb dX12_house_72 ?_
          refine lv_iload_n hx hb dX12_house_73 rfl (lv_at hl 2 rfl) ?_
          obtain ⟨g9, hf⟩ := x_gd hf
          obtain ⟨h10, eh10, hf⟩ := x_lt hf
          refine x_iast C hR hS (x_k1 (x_k hR 65 rfl)) (x_k2 (x_k hR 65 rfl) g9) dX12_house_74 (fun H locs hR hS => ?_)
          rw [← eh10] at hR
          refine lv_iconst (v := 0) hx hb dX12_house_75 rfl ?_
          refine lv_istore_n (lv' := [(3, _), (2, _), (0, _), (1, _)]) hx hb dX12_house_76 rfl hl (Nat.le_of_ble_eq_true rfl) rfl (fun ls hl => ?_)
          exact B_X12_house_77  C  x_FU ls _ _ h10 _ _  (lv_sub hl [2, 1, 0] rfl) hR hS hf
        · have hf := x_in hc hf
          exact B_X12_house_52  C   ls _ _ q6.2  (lv_sub hl [] rfl) hR hS hf
      refine lv_icmp_ne (tgt := 44) hx hb dX12_house_37 rfl (fun hc => ?_) (fun hc => ?_)
      · try simp only [if_neg hc] at kM5
        refine lv_iconst (v := 0) hx hb dX12_house_44 rfl ?_
        exact kM5 ls _ _ (lv_sub hl [0, 1] rfl) hR hS
      · try simp only [if_pos hc] at kM5
        refine lv_iconst (v := 1) hx hb dX12_house_40 rfl ?_
        refine lv_goto (tgt := 45) hx hb dX12_house_41 rfl ?_
        exact kM5 ls _ _ (lv_sub hl [0, 1] rfl) hR hS
  refine lv_if_ne (tgt := 20) hx hb dX12_house_13 rfl (fun hc => ?_) (fun hc => ?_)
  · try simp only [if_neg hc] at kM2
    refine lv_iconst (v := 0) hx hb dX12_house_20 rfl ?_
    exact kM2 ls _ _ (lv_sub hl [0, 1] rfl) hR hS
  · try simp only [if_pos hc] at kM2
    refine lv_iconst (v := 1) hx hb dX12_house_16 rfl ?_
    refine lv_goto (tgt := 21) hx hb dX12_house_17 rfl ?_
    exact kM2 ls _ _ (lv_sub hl [0, 1] rfl) hR hS
def f_X12_noDoor_24 (x : Nat) (h : XH) : Option Int32 := some 1
def f_X12_noDoor (x : Nat) (h : XH) (v1 : Int32) (v2 : Int32) : Option Int32 := Option.bind (f_X12_none x h v1 0) (fun v_1 => if v_1 = 0 then Option.bind (f_X12_doors x h v1) (fun v_2 => some (if (f_X12_in h v2 0 (v_2 - 1)) = 0 then 1 else 0)) else f_X12_noDoor_24 x h)
set_option maxRecDepth 20000 in
theorem B_X12_noDoor_24 {p : Program} {l : Launch} {e : Env} {s : State} {m : MethodId} {args : Array Value} {below : List Frame} {meth : Method} {c : Code} {O : XO} {K : XK} {h : XH} {r : Int32}   (C : x_C p s m args meth c O cX12_noDoor 3 RX12 (some .boolean))   (ls : Array Slot) (H : Heap) (locs : List Loc) (hl : lv_has ls 3 []) (hR : x_R O K h H) (hS : va_S (oA O) s.heap H locs) (hf : f_X12_noDoor_24 (oX O) h = some r) : W p l e (x_rm 2 44) s m args below meth c H locs 0 0 (MQ below (x_Qc O K h (some (.int r))) args s 0 0 (oA O)) (F0 m 24 ls []) := by
  have hx := C.1
  have hb := C.2.1
  rw [f_X12_noDoor_24] at hf
  refine lv_iconst (v := 1) hx hb dX12_noDoor_24 rfl ?_
  refine lv_goto (tgt := 29) hx hb dX12_noDoor_25 rfl ?_
  cases hf
  exact x_zret C hR hS (Or.inr rfl) dX12_noDoor_29
set_option maxRecDepth 20000 in
theorem S_X12_noDoor {l : Launch} {O : XO} {K : XK} {h : XH} {v1 : Int32} {v2 : Int32}  {r : Int32}  (hf : f_X12_noDoor (oX O) h v1 v2 = some r) : x_M l O K yX12_noDoor cX12_noDoor 3 (some .boolean) 2 44 h [.ref (oX O + 64), .int v1, .int v2] (some (.int r)) h := by
  refine x_enter (by decide) (Nat.le_of_ble_eq_true rfl) (fun p e s m args below meth c C hR ls hl => ?_)
  have hS : va_S (oA O) s.heap s.heap [] := va_S.rf
  have hx := C.1
  have hb := C.2.1
  have hl : lv_has ls 3 [(0, .ref (oX O + 64)), (1, .int v1), (2, .int v2)] := hl
  rw [f_X12_noDoor] at hf
  refine lv_aload_n hx hb dX12_noDoor_0 rfl (lv_at hl 0 rfl) ?_
  refine lv_iload_n hx hb dX12_noDoor_1 rfl (lv_at hl 1 rfl) ?_
  refine lv_iconst (v := 0) hx hb dX12_noDoor_2 rfl ?_
  obtain ⟨v_1, ev_1, hf⟩ := x_bd hf
  refine x_cVi2 C hR hS (S_X12_none  ev_1) (x_k hR 64 rfl) (by decide) rfl mf_X12_none tw_1778 (Nat.le_of_ble_eq_true rfl) (Nat.le_of_ble_eq_true rfl) hl.1 (Nat.le_of_ble_eq_true rfl) dX12_noDoor_3 ⟨Nat.le_refl _, Nat.le_refl _⟩ (fun H locs hR hS => ?_)
  refine lv_if_ne (tgt := 24) hx hb dX12_noDoor_6 rfl (fun hc => ?_) (fun hc => ?_)
  · have hf := x_in hc hf
    exact B_X12_noDoor_24  C   ls _ _   (lv_sub hl [] rfl) hR hS hf
  · have hf := x_ip hc hf
    refine lv_iload_n hx hb dX12_noDoor_9 rfl (lv_at hl 2 rfl) ?_
    refine lv_iconst (v := 0) hx hb dX12_noDoor_10 rfl ?_
    refine lv_aload_n hx hb dX12_noDoor_11 rfl (lv_at hl 0 rfl) ?_
    refine lv_iload_n hx hb dX12_noDoor_12 rfl (lv_at hl 1 rfl) ?_
    obtain ⟨v_2, ev_2, hf⟩ := x_bd hf
    refine x_cVi1 C hR hS (S_X12_doors  ev_2) (x_k hR 64 rfl) (by decide) rfl mf_X12_doors tw_1782 (Nat.le_of_ble_eq_true rfl) (Nat.le_of_ble_eq_true rfl) hl.1 (Nat.le_of_ble_eq_true rfl) dX12_noDoor_13 ⟨Nat.le_refl _, Nat.le_refl _⟩ (fun H locs hR hS => ?_)
    refine lv_iconst (v := 1) hx hb dX12_noDoor_16 rfl ?_
    refine lv_isub hx hb dX12_noDoor_17 ?_
    refine x_cSi3 C hR hS (S_X12_in  rfl) mf_X12_in tw_1756 (Nat.le_of_ble_eq_true rfl) (Nat.le_of_ble_eq_true rfl) hl.1 (Nat.le_of_ble_eq_true rfl) dX12_noDoor_18 ⟨Nat.le_refl _, Nat.le_refl _⟩ (fun H locs hR hS => ?_)
    have kM3 : ∀ (ls : Array Slot) (H : Heap) (locs : List Loc), lv_has ls 3 [] → x_R O K h H → va_S (oA O) s.heap H locs → W p l e (x_rm 2 44) s m args below meth c H locs 0 0 (MQ below (x_Qc O K h (some (.int r))) args s 0 0 (oA O)) (F0 m 29 ls [.int (if (f_X12_in h v2 0 (v_2 - 1)) = 0 then 1 else 0)]) := by
      intro ls H locs hl hR hS
      cases hf
      exact x_zret C hR hS (by (repeat' split) <;> first | exact Or.inl rfl | exact Or.inr rfl) dX12_noDoor_29
    refine lv_if_ne (tgt := 28) hx hb dX12_noDoor_21 rfl (fun hc => ?_) (fun hc => ?_)
    · try simp only [if_neg hc] at kM3
      refine lv_iconst (v := 0) hx hb dX12_noDoor_28 rfl ?_
      exact kM3 ls _ _ (lv_sub hl [] rfl) hR hS
    · try simp only [if_pos hc] at kM3
      refine lv_iconst (v := 1) hx hb dX12_noDoor_24 rfl ?_
      refine lv_goto (tgt := 29) hx hb dX12_noDoor_25 rfl ?_
      exact kM3 ls _ _ (lv_sub hl [] rfl) hR hS
def f_X12_look (x : Nat) (h : XH) (v1 : Int32) (v2 : Int32) (v3 : Int32) : Option (XH) := x_let (x_i h (x + 64) 0 0) (fun h1 => Option.bind (f_X12_noDoor x h1 v1 v2) (fun v_2 => Option.bind (f_X12_throwsIf x h1 v_2 1) (fun q3 => if q3.1 = 0 then Option.bind (f_X12_throwsIf x q3.2 (if (f_X12_in q3.2 v3 0 9) = 0 then 1 else 0) 2) (fun q5 => if q5.1 = 0 then if x_b (((164 + (21 * v1)) + 1) + v2) 6927 = true then x_let (x_i q5.2 (x + 65) (((164 + (21 * v1)) + 1) + v2).toNatClampNeg v3) (fun h7 => some h7) else none else some q5.2) else some q3.2)))
set_option maxRecDepth 20000 in
theorem S_X12_look {l : Launch} {O : XO} {K : XK} {h : XH} {v1 : Int32} {v2 : Int32} {v3 : Int32}  {h' : XH}  (hf : f_X12_look (oX O) h v1 v2 v3 = some h') : x_M l O K yX12_look cX12_look 4 none 3 66 h [.ref (oX O + 64), .int v1, .int v2, .int v3] none h' := by
  refine x_enter (by decide) (Nat.le_of_ble_eq_true rfl) (fun p e s m args below meth c C hR ls hl => ?_)
  have hS : va_S (oA O) s.heap s.heap [] := va_S.rf
  have hx := C.1
  have hb := C.2.1
  have hl : lv_has ls 4 [(0, .ref (oX O + 64)), (1, .int v1), (2, .int v2), (3, .int v3)] := hl
  rw [f_X12_look] at hf
  refine lv_aload_n hx hb dX12_look_0 rfl (lv_at hl 0 rfl) ?_
  refine lv_iconst (v := 0) hx hb dX12_look_1 rfl ?_
  obtain ⟨h1, eh1, hf⟩ := x_lt hf
  refine pf_12_0 C hR hS (x_k hR 64 rfl) tw_1543 dX12_look_2 (fun H locs hR hS => ?_)
  rw [← eh1] at hR
  refine lv_aload_n hx hb dX12_look_5 rfl (lv_at hl 0 rfl) ?_
  refine lv_aload_n hx hb dX12_look_6 rfl (lv_at hl 0 rfl) ?_
  refine lv_iload_n hx hb dX12_look_7 rfl (lv_at hl 1 rfl) ?_
  refine lv_iload_n hx hb dX12_look_8 rfl (lv_at hl 2 rfl) ?_
  obtain ⟨v_2, ev_2, hf⟩ := x_bd hf
  refine x_cVi2 C hR hS (S_X12_noDoor  ev_2) (x_k hR 64 rfl) (by decide) rfl mf_X12_noDoor tw_1774 (Nat.le_of_ble_eq_true rfl) (Nat.le_of_ble_eq_true rfl) hl.1 (Nat.le_of_ble_eq_true rfl) dX12_look_9 ⟨Nat.le_refl _, Nat.le_refl _⟩ (fun H locs hR hS => ?_)
  refine lv_iconst (v := 1) hx hb dX12_look_12 rfl ?_
  obtain ⟨q3, eq3, hf⟩ := x_bd hf
  refine x_cVi2 C hR hS (S_X12_throwsIf  eq3) (x_k hR 64 rfl) (by decide) rfl mf_X12_throwsIf tw_1741 (Nat.le_of_ble_eq_true rfl) (Nat.le_of_ble_eq_true rfl) hl.1 (Nat.le_of_ble_eq_true rfl) dX12_look_13 ⟨Nat.le_refl _, Nat.le_refl _⟩ (fun H locs hR hS => ?_)
  refine lv_if_ne (tgt := 42) hx hb dX12_look_16 rfl (fun hc => ?_) (fun hc => ?_)
  · have hf := x_in hc hf
    cases hf
    exact x_vret C hR hS dX12_look_42
  · have hf := x_ip hc hf
    refine lv_aload_n hx hb dX12_look_19 rfl (lv_at hl 0 rfl) ?_
    refine lv_iload_n hx hb dX12_look_20 rfl (lv_at hl 3 rfl) ?_
    refine lv_iconst (v := 0) hx hb dX12_look_21 rfl ?_
    refine lv_bipush (v := 9) hx hb dX12_look_22 rfl ?_
    refine x_cSi3 C hR hS (S_X12_in  rfl) mf_X12_in tw_1756 (Nat.le_of_ble_eq_true rfl) (Nat.le_of_ble_eq_true rfl) hl.1 (Nat.le_of_ble_eq_true rfl) dX12_look_24 ⟨Nat.le_refl _, Nat.le_refl _⟩ (fun H locs hR hS => ?_)
    have kM4 : ∀ (ls : Array Slot) (H : Heap) (locs : List Loc), lv_has ls 4 [(0, .ref (oX O + 64)), (1, .int v1), (2, .int v2), (3, .int v3)] → x_R O K q3.2 H → va_S (oA O) s.heap H locs → W p l e (x_rm 3 66) s m args below meth c H locs 0 0 (MQ below (x_Qc O K h' none) args s 0 0 (oA O)) (F0 m 35 ls [.int (if (f_X12_in q3.2 v3 0 9) = 0 then 1 else 0), .ref (oX O + 64)]) := by
      intro ls H locs hl hR hS
      refine lv_iconst (v := 2) hx hb dX12_look_35 rfl ?_
      obtain ⟨q5, eq5, hf⟩ := x_bd hf
      refine x_cVi2 C hR hS (S_X12_throwsIf  eq5) (x_k hR 64 rfl) (by decide) rfl mf_X12_throwsIf tw_1741 (Nat.le_of_ble_eq_true rfl) (Nat.le_of_ble_eq_true rfl) hl.1 (Nat.le_of_ble_eq_true rfl) dX12_look_36 ⟨Nat.le_refl _, Nat.le_refl _⟩ (fun H locs hR hS => ?_)
      refine lv_if_eq (tgt := 43) hx hb dX12_look_39 rfl (fun hc => ?_) (fun hc => ?_)
      · have hf := x_ip hc hf
        refine lv_aload_n hx hb dX12_look_43 rfl (lv_at hl 0 rfl) ?_
        refine gf_12_1 C hR (x_k hR 64 rfl) tw_1544 dX12_look_44 ?_
        refine lv_sipush (v := 164) hx hb dX12_look_47 rfl ?_
        refine lv_bipush (v := 21) hx hb dX12_look_50 rfl ?_
        refine lv_iload_n hx hb dX12_look_52 rfl (lv_at hl 1 rfl) ?_
        refine lv_imul hx hb dX12_look_53 ?_
        refine lv_iadd hx hb dX12_look_54 ?_
        refine lv_iconst (v := 1) hx hb dX12_look_55 rfl ?_
        refine lv_iadd hx hb dX12_look_56 ?_
        refine lv_iload_n hx hb dX12_look_57 rfl (lv_at hl 2 rfl) ?_
        refine lv_iadd hx hb dX12_look_58 ?_
        refine lv_iload_n hx hb dX12_look_59 rfl (lv_at hl 3 rfl) ?_
        obtain ⟨g6, hf⟩ := x_gd hf
        obtain ⟨h7, eh7, hf⟩ := x_lt hf
        refine x_iast C hR hS (x_k1 (x_k hR 65 rfl)) (x_k2 (x_k hR 65 rfl) g6) dX12_look_60 (fun H locs hR hS => ?_)
        rw [← eh7] at hR
        cases hf
        exact x_vret C hR hS dX12_look_61
      · have hf := x_in hc hf
        cases hf
        exact x_vret C hR hS dX12_look_42
    refine lv_if_ne (tgt := 34) hx hb dX12_look_27 rfl (fun hc => ?_) (fun hc => ?_)
    · try simp only [if_neg hc] at kM4
      refine lv_iconst (v := 0) hx hb dX12_look_34 rfl ?_
      exact kM4 ls _ _ (lv_sub hl [0, 1, 2, 3] rfl) hR hS
    · try simp only [if_pos hc] at kM4
      refine lv_iconst (v := 1) hx hb dX12_look_30 rfl ?_
      refine lv_goto (tgt := 35) hx hb dX12_look_31 rfl ?_
      exact kM4 ls _ _ (lv_sub hl [0, 1, 2, 3] rfl) hR hS
def f_X12_of (x : Nat) (h : XH) (v1 : Int32) (v2 : Int32) : Option Int32 := if x_b ((290 + (81 * v1)) + v2) 6927 = true then some (h.1 (x + 65) ((290 + (81 * v1)) + v2).toNatClampNeg) else none
set_option maxRecDepth 20000 in
theorem S_X12_of {l : Launch} {O : XO} {K : XK} {h : XH} {v1 : Int32} {v2 : Int32}  {r : Int32}  (hf : f_X12_of (oX O) h v1 v2 = some r) : x_M l O K yX12_of cX12_of 3 (some .int) 0 0 h [.ref (oX O + 64), .int v1, .int v2] (some (.int r)) h := by
  refine x_enter (by decide) (Nat.le_of_ble_eq_true rfl) (fun p e s m args below meth c C hR ls hl => ?_)
  have hS : va_S (oA O) s.heap s.heap [] := va_S.rf
  have hx := C.1
  have hb := C.2.1
  have hl : lv_has ls 3 [(0, .ref (oX O + 64)), (1, .int v1), (2, .int v2)] := hl
  rw [f_X12_of] at hf
  refine lv_aload_n hx hb dX12_of_0 rfl (lv_at hl 0 rfl) ?_
  refine gf_12_1 C hR (x_k hR 64 rfl) tw_1544 dX12_of_1 ?_
  refine lv_sipush (v := 290) hx hb dX12_of_4 rfl ?_
  refine lv_bipush (v := 81) hx hb dX12_of_7 rfl ?_
  refine lv_iload_n hx hb dX12_of_9 rfl (lv_at hl 1 rfl) ?_
  refine lv_imul hx hb dX12_of_10 ?_
  refine lv_iadd hx hb dX12_of_11 ?_
  refine lv_iload_n hx hb dX12_of_12 rfl (lv_at hl 2 rfl) ?_
  refine lv_iadd hx hb dX12_of_13 ?_
  obtain ⟨g1, hf⟩ := x_gd hf
  refine x_iald C hR (x_k1 (x_k hR 65 rfl)) (x_k2 (x_k hR 65 rfl) g1) dX12_of_14 ?_
  cases hf
  exact x_iret C hR hS dX12_of_15
def f_X12_sets (x : Nat) (h : XH) (v1 : Int32) (v2 : Int32) (v3 : Int32) : Option (XH) := if x_b ((290 + (81 * v1)) + v2) 6927 = true then x_let (x_i h (x + 65) ((290 + (81 * v1)) + v2).toNatClampNeg v3) (fun h2 => some h2) else none
set_option maxRecDepth 20000 in
theorem S_X12_sets {l : Launch} {O : XO} {K : XK} {h : XH} {v1 : Int32} {v2 : Int32} {v3 : Int32}  {h' : XH}  (hf : f_X12_sets (oX O) h v1 v2 v3 = some h') : x_M l O K yX12_sets cX12_sets 4 none 0 0 h [.ref (oX O + 64), .int v1, .int v2, .int v3] none h' := by
  refine x_enter (by decide) (Nat.le_of_ble_eq_true rfl) (fun p e s m args below meth c C hR ls hl => ?_)
  have hS : va_S (oA O) s.heap s.heap [] := va_S.rf
  have hx := C.1
  have hb := C.2.1
  have hl : lv_has ls 4 [(0, .ref (oX O + 64)), (1, .int v1), (2, .int v2), (3, .int v3)] := hl
  rw [f_X12_sets] at hf
  refine lv_aload_n hx hb dX12_sets_0 rfl (lv_at hl 0 rfl) ?_
  refine gf_12_1 C hR (x_k hR 64 rfl) tw_1544 dX12_sets_1 ?_
  refine lv_sipush (v := 290) hx hb dX12_sets_4 rfl ?_
  refine lv_bipush (v := 81) hx hb dX12_sets_7 rfl ?_
  refine lv_iload_n hx hb dX12_sets_9 rfl (lv_at hl 1 rfl) ?_
  refine lv_imul hx hb dX12_sets_10 ?_
  refine lv_iadd hx hb dX12_sets_11 ?_
  refine lv_iload_n hx hb dX12_sets_12 rfl (lv_at hl 2 rfl) ?_
  refine lv_iadd hx hb dX12_sets_13 ?_
  refine lv_iload_n hx hb dX12_sets_14 rfl (lv_at hl 3 rfl) ?_
  obtain ⟨g1, hf⟩ := x_gd hf
  obtain ⟨h2, eh2, hf⟩ := x_lt hf
  refine x_iast C hR hS (x_k1 (x_k hR 65 rfl)) (x_k2 (x_k hR 65 rfl) g1) dX12_sets_15 (fun H locs hR hS => ?_)
  rw [← eh2] at hR
  cases hf
  exact x_vret C hR hS dX12_sets_16
def f_X12_cardOf (x : Nat) (h : XH) (v1 : Int32) (v2 : Int32) : Option Int32 := Option.bind (f_X12_of x h v1 0) (fun v_1 => Option.bind (f_X12_of x h v1 1) (fun v_2 => some (x_rem (v_1 + (v2 * v_2)) 52)))
set_option maxRecDepth 20000 in
theorem S_X12_cardOf {l : Launch} {O : XO} {K : XK} {h : XH} {v1 : Int32} {v2 : Int32}  {r : Int32}  (hf : f_X12_cardOf (oX O) h v1 v2 = some r) : x_M l O K yX12_cardOf cX12_cardOf 3 (some .int) 1 22 h [.ref (oX O + 64), .int v1, .int v2] (some (.int r)) h := by
  refine x_enter (by decide) (Nat.le_of_ble_eq_true rfl) (fun p e s m args below meth c C hR ls hl => ?_)
  have hS : va_S (oA O) s.heap s.heap [] := va_S.rf
  have hx := C.1
  have hb := C.2.1
  have hl : lv_has ls 3 [(0, .ref (oX O + 64)), (1, .int v1), (2, .int v2)] := hl
  rw [f_X12_cardOf] at hf
  refine lv_aload_n hx hb dX12_cardOf_0 rfl (lv_at hl 0 rfl) ?_
  refine lv_iload_n hx hb dX12_cardOf_1 rfl (lv_at hl 1 rfl) ?_
  refine lv_iconst (v := 0) hx hb dX12_cardOf_2 rfl ?_
  obtain ⟨v_1, ev_1, hf⟩ := x_bd hf
  refine x_cVi2 C hR hS (S_X12_of  ev_1) (x_k hR 64 rfl) (by decide) rfl mf_X12_of tw_1806 (Nat.le_of_ble_eq_true rfl) (Nat.le_of_ble_eq_true rfl) hl.1 (Nat.le_of_ble_eq_true rfl) dX12_cardOf_3 ⟨Nat.le_refl _, Nat.le_refl _⟩ (fun H locs hR hS => ?_)
  refine lv_iload_n hx hb dX12_cardOf_6 rfl (lv_at hl 2 rfl) ?_
  refine lv_aload_n hx hb dX12_cardOf_7 rfl (lv_at hl 0 rfl) ?_
  refine lv_iload_n hx hb dX12_cardOf_8 rfl (lv_at hl 1 rfl) ?_
  refine lv_iconst (v := 1) hx hb dX12_cardOf_9 rfl ?_
  obtain ⟨v_2, ev_2, hf⟩ := x_bd hf
  refine x_cVi2 C hR hS (S_X12_of  ev_2) (x_k hR 64 rfl) (by decide) rfl mf_X12_of tw_1806 (Nat.le_of_ble_eq_true rfl) (Nat.le_of_ble_eq_true rfl) hl.1 (Nat.le_of_ble_eq_true rfl) dX12_cardOf_10 ⟨Nat.le_refl _, Nat.le_refl _⟩ (fun H locs hR hS => ?_)
  refine lv_imul hx hb dX12_cardOf_13 ?_
  refine lv_iadd hx hb dX12_cardOf_14 ?_
  refine lv_bipush (v := 52) hx hb dX12_cardOf_15 rfl ?_
  refine lv_irem hx hb dX12_cardOf_17 (by decide) ?_
  cases hf
  exact x_iret C hR hS dX12_cardOf_18
def f_X12_placesFor (h : XH) (v0 : Int32) (v1 : Int32) : Option Int32 := if v1 = 0 then none else some (((v0 + v1) - 1) / v1)
set_option maxRecDepth 20000 in
theorem S_X12_placesFor {l : Launch} {O : XO} {K : XK} {h : XH} {v0 : Int32} {v1 : Int32}  {r : Int32}  (hf : f_X12_placesFor h v0 v1 = some r) : x_M l O K yX12_placesFor cX12_placesFor 2 (some .int) 0 0 h [.int v0, .int v1] (some (.int r)) h := by
  refine x_enter (by decide) (Nat.le_of_ble_eq_true rfl) (fun p e s m args below meth c C hR ls hl => ?_)
  have hS : va_S (oA O) s.heap s.heap [] := va_S.rf
  have hx := C.1
  have hb := C.2.1
  have hl : lv_has ls 2 [(0, .int v0), (1, .int v1)] := hl
  rw [f_X12_placesFor] at hf
  refine lv_iload_n hx hb dX12_placesFor_0 rfl (lv_at hl 0 rfl) ?_
  refine lv_iload_n hx hb dX12_placesFor_1 rfl (lv_at hl 1 rfl) ?_
  refine lv_iadd hx hb dX12_placesFor_2 ?_
  refine lv_iconst (v := 1) hx hb dX12_placesFor_3 rfl ?_
  refine lv_isub hx hb dX12_placesFor_4 ?_
  refine lv_iload_n hx hb dX12_placesFor_5 rfl (lv_at hl 1 rfl) ?_
  obtain ⟨g1, hf⟩ := x_gn hf
  refine lv_idiv hx hb dX12_placesFor_6 g1 ?_
  cases hf
  exact x_iret C hR hS dX12_placesFor_7
def f_X12_places (x : Nat) (h : XH) (v1 : Int32) : Option Int32 := Option.bind (f_X12_of x h v1 2) (fun v_1 => Option.bind (f_X12_of x h v1 6) (fun v_2 => Option.bind (f_X12_placesFor h v_1 v_2) (fun v_3 => some v_3)))
set_option maxRecDepth 20000 in
theorem S_X12_places {l : Launch} {O : XO} {K : XK} {h : XH} {v1 : Int32}  {r : Int32}  (hf : f_X12_places (oX O) h v1 = some r) : x_M l O K yX12_places cX12_places 2 (some .int) 1 22 h [.ref (oX O + 64), .int v1] (some (.int r)) h := by
  refine x_enter (by decide) (Nat.le_of_ble_eq_true rfl) (fun p e s m args below meth c C hR ls hl => ?_)
  have hS : va_S (oA O) s.heap s.heap [] := va_S.rf
  have hx := C.1
  have hb := C.2.1
  have hl : lv_has ls 2 [(0, .ref (oX O + 64)), (1, .int v1)] := hl
  rw [f_X12_places] at hf
  refine lv_aload_n hx hb dX12_places_0 rfl (lv_at hl 0 rfl) ?_
  refine lv_iload_n hx hb dX12_places_1 rfl (lv_at hl 1 rfl) ?_
  refine lv_iconst (v := 2) hx hb dX12_places_2 rfl ?_
  obtain ⟨v_1, ev_1, hf⟩ := x_bd hf
  refine x_cVi2 C hR hS (S_X12_of  ev_1) (x_k hR 64 rfl) (by decide) rfl mf_X12_of tw_1806 (Nat.le_of_ble_eq_true rfl) (Nat.le_of_ble_eq_true rfl) hl.1 (Nat.le_of_ble_eq_true rfl) dX12_places_3 ⟨Nat.le_refl _, Nat.le_refl _⟩ (fun H locs hR hS => ?_)
  refine lv_aload_n hx hb dX12_places_6 rfl (lv_at hl 0 rfl) ?_
  refine lv_iload_n hx hb dX12_places_7 rfl (lv_at hl 1 rfl) ?_
  refine lv_bipush (v := 6) hx hb dX12_places_8 rfl ?_
  obtain ⟨v_2, ev_2, hf⟩ := x_bd hf
  refine x_cVi2 C hR hS (S_X12_of  ev_2) (x_k hR 64 rfl) (by decide) rfl mf_X12_of tw_1806 (Nat.le_of_ble_eq_true rfl) (Nat.le_of_ble_eq_true rfl) hl.1 (Nat.le_of_ble_eq_true rfl) dX12_places_10 ⟨Nat.le_refl _, Nat.le_refl _⟩ (fun H locs hR hS => ?_)
  obtain ⟨v_3, ev_3, hf⟩ := x_bd hf
  refine x_cSi2 C hR hS (S_X12_placesFor  ev_3) mf_X12_placesFor tw_1825 (Nat.le_of_ble_eq_true rfl) (Nat.le_of_ble_eq_true rfl) hl.1 (Nat.le_of_ble_eq_true rfl) dX12_places_13 ⟨Nat.le_refl _, Nat.le_refl _⟩ (fun H locs hR hS => ?_)
  cases hf
  exact x_iret C hR hS dX12_places_16
def f_X12_noPack (x : Nat) (h : XH) (v1 : Int32) : Option Int32 := Option.bind (f_X12_none x h v1 1) (fun v_1 => if x_isb v_1 = true then some v_1 else none)
set_option maxRecDepth 20000 in
theorem S_X12_noPack {l : Launch} {O : XO} {K : XK} {h : XH} {v1 : Int32}  {r : Int32}  (hf : f_X12_noPack (oX O) h v1 = some r) : x_M l O K yX12_noPack cX12_noPack 2 (some .boolean) 2 44 h [.ref (oX O + 64), .int v1] (some (.int r)) h := by
  refine x_enter (by decide) (Nat.le_of_ble_eq_true rfl) (fun p e s m args below meth c C hR ls hl => ?_)
  have hS : va_S (oA O) s.heap s.heap [] := va_S.rf
  have hx := C.1
  have hb := C.2.1
  have hl : lv_has ls 2 [(0, .ref (oX O + 64)), (1, .int v1)] := hl
  rw [f_X12_noPack] at hf
  refine lv_aload_n hx hb dX12_noPack_0 rfl (lv_at hl 0 rfl) ?_
  refine lv_iload_n hx hb dX12_noPack_1 rfl (lv_at hl 1 rfl) ?_
  refine lv_iconst (v := 1) hx hb dX12_noPack_2 rfl ?_
  obtain ⟨v_1, ev_1, hf⟩ := x_bd hf
  refine x_cVi2 C hR hS (S_X12_none  ev_1) (x_k hR 64 rfl) (by decide) rfl mf_X12_none tw_1778 (Nat.le_of_ble_eq_true rfl) (Nat.le_of_ble_eq_true rfl) hl.1 (Nat.le_of_ble_eq_true rfl) dX12_noPack_3 ⟨Nat.le_refl _, Nat.le_refl _⟩ (fun H locs hR hS => ?_)
  obtain ⟨g2, hf⟩ := x_gd hf
  cases hf
  exact x_zret C hR hS (x_isb_of g2) dX12_noPack_6
def f_X12_noPlace_24 (x : Nat) (h : XH) : Option Int32 := some 1
def f_X12_noPlace (x : Nat) (h : XH) (v1 : Int32) (v2 : Int32) : Option Int32 := Option.bind (f_X12_noPack x h v1) (fun v_1 => if v_1 = 0 then Option.bind (f_X12_of x h v1 2) (fun v_2 => some (if (f_X12_in h v2 0 (v_2 - 1)) = 0 then 1 else 0)) else f_X12_noPlace_24 x h)
set_option maxRecDepth 20000 in
theorem B_X12_noPlace_24 {p : Program} {l : Launch} {e : Env} {s : State} {m : MethodId} {args : Array Value} {below : List Frame} {meth : Method} {c : Code} {O : XO} {K : XK} {h : XH} {r : Int32}   (C : x_C p s m args meth c O cX12_noPlace 3 RX12 (some .boolean))   (ls : Array Slot) (H : Heap) (locs : List Loc) (hl : lv_has ls 3 []) (hR : x_R O K h H) (hS : va_S (oA O) s.heap H locs) (hf : f_X12_noPlace_24 (oX O) h = some r) : W p l e (x_rm 3 65) s m args below meth c H locs 0 0 (MQ below (x_Qc O K h (some (.int r))) args s 0 0 (oA O)) (F0 m 24 ls []) := by
  have hx := C.1
  have hb := C.2.1
  rw [f_X12_noPlace_24] at hf
  refine lv_iconst (v := 1) hx hb dX12_noPlace_24 rfl ?_
  refine lv_goto (tgt := 29) hx hb dX12_noPlace_25 rfl ?_
  cases hf
  exact x_zret C hR hS (Or.inr rfl) dX12_noPlace_29
set_option maxRecDepth 20000 in
theorem S_X12_noPlace {l : Launch} {O : XO} {K : XK} {h : XH} {v1 : Int32} {v2 : Int32}  {r : Int32}  (hf : f_X12_noPlace (oX O) h v1 v2 = some r) : x_M l O K yX12_noPlace cX12_noPlace 3 (some .boolean) 3 65 h [.ref (oX O + 64), .int v1, .int v2] (some (.int r)) h := by
  refine x_enter (by decide) (Nat.le_of_ble_eq_true rfl) (fun p e s m args below meth c C hR ls hl => ?_)
  have hS : va_S (oA O) s.heap s.heap [] := va_S.rf
  have hx := C.1
  have hb := C.2.1
  have hl : lv_has ls 3 [(0, .ref (oX O + 64)), (1, .int v1), (2, .int v2)] := hl
  rw [f_X12_noPlace] at hf
  refine lv_aload_n hx hb dX12_noPlace_0 rfl (lv_at hl 0 rfl) ?_
  refine lv_iload_n hx hb dX12_noPlace_1 rfl (lv_at hl 1 rfl) ?_
  obtain ⟨v_1, ev_1, hf⟩ := x_bd hf
  refine x_cVi1 C hR hS (S_X12_noPack  ev_1) (x_k hR 64 rfl) (by decide) rfl mf_X12_noPack tw_1802 (Nat.le_of_ble_eq_true rfl) (Nat.le_of_ble_eq_true rfl) hl.1 (Nat.le_of_ble_eq_true rfl) dX12_noPlace_2 ⟨Nat.le_refl _, Nat.le_refl _⟩ (fun H locs hR hS => ?_)
  refine lv_if_ne (tgt := 24) hx hb dX12_noPlace_5 rfl (fun hc => ?_) (fun hc => ?_)
  · have hf := x_in hc hf
    exact B_X12_noPlace_24  C   ls _ _   (lv_sub hl [] rfl) hR hS hf
  · have hf := x_ip hc hf
    refine lv_iload_n hx hb dX12_noPlace_8 rfl (lv_at hl 2 rfl) ?_
    refine lv_iconst (v := 0) hx hb dX12_noPlace_9 rfl ?_
    refine lv_aload_n hx hb dX12_noPlace_10 rfl (lv_at hl 0 rfl) ?_
    refine lv_iload_n hx hb dX12_noPlace_11 rfl (lv_at hl 1 rfl) ?_
    refine lv_iconst (v := 2) hx hb dX12_noPlace_12 rfl ?_
    obtain ⟨v_2, ev_2, hf⟩ := x_bd hf
    refine x_cVi2 C hR hS (S_X12_of  ev_2) (x_k hR 64 rfl) (by decide) rfl mf_X12_of tw_1806 (Nat.le_of_ble_eq_true rfl) (Nat.le_of_ble_eq_true rfl) hl.1 (Nat.le_of_ble_eq_true rfl) dX12_noPlace_13 ⟨Nat.le_refl _, Nat.le_refl _⟩ (fun H locs hR hS => ?_)
    refine lv_iconst (v := 1) hx hb dX12_noPlace_16 rfl ?_
    refine lv_isub hx hb dX12_noPlace_17 ?_
    refine x_cSi3 C hR hS (S_X12_in  rfl) mf_X12_in tw_1756 (Nat.le_of_ble_eq_true rfl) (Nat.le_of_ble_eq_true rfl) hl.1 (Nat.le_of_ble_eq_true rfl) dX12_noPlace_18 ⟨Nat.le_refl _, Nat.le_refl _⟩ (fun H locs hR hS => ?_)
    have kM3 : ∀ (ls : Array Slot) (H : Heap) (locs : List Loc), lv_has ls 3 [] → x_R O K h H → va_S (oA O) s.heap H locs → W p l e (x_rm 3 65) s m args below meth c H locs 0 0 (MQ below (x_Qc O K h (some (.int r))) args s 0 0 (oA O)) (F0 m 29 ls [.int (if (f_X12_in h v2 0 (v_2 - 1)) = 0 then 1 else 0)]) := by
      intro ls H locs hl hR hS
      cases hf
      exact x_zret C hR hS (by (repeat' split) <;> first | exact Or.inl rfl | exact Or.inr rfl) dX12_noPlace_29
    refine lv_if_ne (tgt := 28) hx hb dX12_noPlace_21 rfl (fun hc => ?_) (fun hc => ?_)
    · try simp only [if_neg hc] at kM3
      refine lv_iconst (v := 0) hx hb dX12_noPlace_28 rfl ?_
      exact kM3 ls _ _ (lv_sub hl [] rfl) hR hS
    · try simp only [if_pos hc] at kM3
      refine lv_iconst (v := 1) hx hb dX12_noPlace_24 rfl ?_
      refine lv_goto (tgt := 29) hx hb dX12_noPlace_25 rfl ?_
      exact kM3 ls _ _ (lv_sub hl [] rfl) hR hS
def f_X12_isPut (x : Nat) (h : XH) (v1 : Int32) : Option Int32 := Option.bind (f_X12_of x h v1 3) (fun v_1 => some (if v_1 ≤ 0 then 0 else 1))
set_option maxRecDepth 20000 in
theorem S_X12_isPut {l : Launch} {O : XO} {K : XK} {h : XH} {v1 : Int32}  {r : Int32}  (hf : f_X12_isPut (oX O) h v1 = some r) : x_M l O K yX12_isPut cX12_isPut 2 (some .boolean) 1 22 h [.ref (oX O + 64), .int v1] (some (.int r)) h := by
  refine x_enter (by decide) (Nat.le_of_ble_eq_true rfl) (fun p e s m args below meth c C hR ls hl => ?_)
  have hS : va_S (oA O) s.heap s.heap [] := va_S.rf
  have hx := C.1
  have hb := C.2.1
  have hl : lv_has ls 2 [(0, .ref (oX O + 64)), (1, .int v1)] := hl
  rw [f_X12_isPut] at hf
  refine lv_aload_n hx hb dX12_isPut_0 rfl (lv_at hl 0 rfl) ?_
  refine lv_iload_n hx hb dX12_isPut_1 rfl (lv_at hl 1 rfl) ?_
  refine lv_iconst (v := 3) hx hb dX12_isPut_2 rfl ?_
  obtain ⟨v_1, ev_1, hf⟩ := x_bd hf
  refine x_cVi2 C hR hS (S_X12_of  ev_1) (x_k hR 64 rfl) (by decide) rfl mf_X12_of tw_1806 (Nat.le_of_ble_eq_true rfl) (Nat.le_of_ble_eq_true rfl) hl.1 (Nat.le_of_ble_eq_true rfl) dX12_isPut_3 ⟨Nat.le_refl _, Nat.le_refl _⟩ (fun H locs hR hS => ?_)
  have kM2 : ∀ (ls : Array Slot) (H : Heap) (locs : List Loc), lv_has ls 2 [] → x_R O K h H → va_S (oA O) s.heap H locs → W p l e (x_rm 1 22) s m args below meth c H locs 0 0 (MQ below (x_Qc O K h (some (.int r))) args s 0 0 (oA O)) (F0 m 14 ls [.int (if v_1 ≤ 0 then 0 else 1)]) := by
    intro ls H locs hl hR hS
    cases hf
    exact x_zret C hR hS (by (repeat' split) <;> first | exact Or.inl rfl | exact Or.inr rfl) dX12_isPut_14
  refine lv_if_le (tgt := 13) hx hb dX12_isPut_6 rfl (fun hc => ?_) (fun hc => ?_)
  · try simp only [if_pos hc] at kM2
    refine lv_iconst (v := 0) hx hb dX12_isPut_13 rfl ?_
    exact kM2 ls _ _ (lv_sub hl [] rfl) hR hS
  · try simp only [if_neg hc] at kM2
    refine lv_iconst (v := 1) hx hb dX12_isPut_9 rfl ?_
    refine lv_goto (tgt := 14) hx hb dX12_isPut_10 rfl ?_
    exact kM2 ls _ _ (lv_sub hl [] rfl) hR hS
def f_X12_pack_82 (x : Nat) (h : XH) : Option (Int32 × XH) := some (0, h)
def f_X12_pack_120 (x : Nat) : Nat → XH → Int32 → Int32 → Int32 → Int32 → Int32 → Option (Int32 × XH)
  | 0, _, _, _, _, _, _ => none
  | n + 1, h, v1, v2, v3, v4, v5 => if 52 ≤ v5 then Option.bind (f_X12_sets x h v4 0 v1) (fun h9 => Option.bind (f_X12_sets x h9 v4 1 v2) (fun h10 => Option.bind (f_X12_sets x h10 v4 2 v3) (fun h11 => Option.bind (f_X12_sets x h11 v4 6 1) (fun h12 => if x_b 1 6927 = true then if x_b 1 6927 = true then x_let (x_i h12 (x + 65) (1 : Int32).toNatClampNeg ((h12.1 (x + 65) (1 : Int32).toNatClampNeg) + 1)) (fun h15 => some (v4, h15)) else none else none)))) else Option.bind (f_X12_sets x h v4 (29 + v5) (-1)) (fun h16 => f_X12_pack_120 x n h16 v1 v2 v3 v4 (v5 + 1))
def f_X12_pack_95 (x : Nat) : Nat → XH → Int32 → Int32 → Int32 → Int32 → Int32 → Option (Int32 × XH)
  | 0, _, _, _, _, _, _ => none
  | n + 1, h, v1, v2, v3, v4, v5 => if 81 ≤ v5 then f_X12_pack_120 x x_FU h v1 v2 v3 v4 0 else Option.bind (f_X12_sets x h v4 v5 0) (fun h17 => f_X12_pack_95 x n h17 v1 v2 v3 v4 (v5 + 1))
def f_X12_pack (x : Nat) (h : XH) (v1 : Int32) (v2 : Int32) (v3 : Int32) : Option (Int32 × XH) := x_let (x_i h (x + 64) 0 0) (fun h1 => Option.bind (f_X12_throwsIf x h1 (if (f_X12_noCard h1 v1) = 0 then (if (f_X12_in h1 v2 1 51) = 0 then 1 else (if (x_rem v2 2) = 0 then 1 else (if (x_rem v2 13) = 0 then 1 else (if (f_X12_in h1 v3 3 52) = 0 then 1 else 0)))) else 1) 1) (fun q3 => if q3.1 = 0 then if x_b 1 6927 = true then Option.bind (f_X12_throwsIf x q3.2 (if (q3.2.1 (x + 65) (1 : Int32).toNatClampNeg) = 8 then 1 else 0) 2) (fun q6 => if q6.1 = 0 then if x_b 1 6927 = true then x_let ((q6.2.1 (x + 65) (1 : Int32).toNatClampNeg) : Int32) (fun t8 => f_X12_pack_95 x x_FU q6.2 v1 v2 v3 t8 0) else none else f_X12_pack_82 x q6.2) else none else f_X12_pack_82 x q3.2))
set_option maxRecDepth 20000 in
theorem B_X12_pack_82 {p : Program} {l : Launch} {e : Env} {s : State} {m : MethodId} {args : Array Value} {below : List Frame} {meth : Method} {c : Code} {O : XO} {K : XK} {r : Int32} {h' : XH}   (C : x_C p s m args meth c O cX12_pack 6 RX12 (some .int))   (ls : Array Slot) (H : Heap) (locs : List Loc) (h : XH) (hl : lv_has ls 6 []) (hR : x_R O K h H) (hS : va_S (oA O) s.heap H locs) (hf : f_X12_pack_82 (oX O) h = some (r, h')) : W p l e (x_rm 2 42) s m args below meth c H locs 0 0 (MQ below (x_Qc O K h' (some (.int r))) args s 0 0 (oA O)) (F0 m 82 ls []) := by
  have hx := C.1
  have hb := C.2.1
  rw [f_X12_pack_82] at hf
  refine lv_iconst (v := 0) hx hb dX12_pack_82 rfl ?_
  cases hf
  exact x_iret C hR hS dX12_pack_83
set_option maxRecDepth 20000 in
theorem B_X12_pack_120 {p : Program} {l : Launch} {e : Env} {s : State} {m : MethodId} {args : Array Value} {below : List Frame} {meth : Method} {c : Code} {O : XO} {K : XK} {r : Int32} {h' : XH}   (C : x_C p s m args meth c O cX12_pack 6 RX12 (some .int))   : ∀ (n : Nat) (ls : Array Slot) (H : Heap) (locs : List Loc) (h : XH) (v1 : Int32) (v2 : Int32) (v3 : Int32) (v4 : Int32) (v5 : Int32) (hl : lv_has ls 6 [(0, .ref (oX O + 64)), (1, .int v1), (2, .int v2), (3, .int v3), (4, .int v4), (5, .int v5)]) (hR : x_R O K h H) (hS : va_S (oA O) s.heap H locs) (hf : f_X12_pack_120 (oX O) n h v1 v2 v3 v4 v5 = some (r, h')), W p l e (x_rm 2 42) s m args below meth c H locs 0 0 (MQ below (x_Qc O K h' (some (.int r))) args s 0 0 (oA O)) (F0 m 120 ls []) := by
  have hx := C.1
  have hb := C.2.1
  intro n
  induction n with
  | zero =>
    intro ls H locs h v1 v2 v3 v4 v5 hl hR hS hf
    rw [f_X12_pack_120] at hf
    cases hf
  | succ n ih =>
    intro ls H locs h v1 v2 v3 v4 v5 hl hR hS hf
    rw [f_X12_pack_120] at hf
    refine lv_iload hx hb dX12_pack_120 (lv_at hl 5 rfl) ?_
    refine lv_bipush (v := 52) hx hb dX12_pack_122 rfl ?_
    refine lv_icmp_ge (tgt := 145) hx hb dX12_pack_124 rfl (fun hc => ?_) (fun hc => ?_)
    · have hf := x_ip hc hf
      refine lv_aload_n hx hb dX12_pack_145 rfl (lv_at hl 0 rfl) ?_
      refine lv_iload hx hb dX12_pack_146 (lv_at hl 4 rfl) ?_
      refine lv_iconst (v := 0) hx hb dX12_pack_148 rfl ?_
      refine lv_iload_n hx hb dX12_pack_149 rfl (lv_at hl 1 rfl) ?_
      obtain ⟨h9, eh9, hf⟩ := x_bd hf
      refine x_cVv3 C hR hS (S_X12_sets  eh9) (x_k hR 64 rfl) (by decide) rfl mf_X12_sets tw_1790 (Nat.le_of_ble_eq_true rfl) (Nat.le_of_ble_eq_true rfl) hl.1 (Nat.le_of_ble_eq_true rfl) dX12_pack_150 ⟨Nat.le_refl _, Nat.le_refl _⟩ (fun H locs hR hS => ?_)
      refine lv_aload_n hx hb dX12_pack_153 rfl (lv_at hl 0 rfl) ?_
      refine lv_iload hx hb dX12_pack_154 (lv_at hl 4 rfl) ?_
      refine lv_iconst (v := 1) hx hb dX12_pack_156 rfl ?_
      refine lv_iload_n hx hb dX12_pack_157 rfl (lv_at hl 2 rfl) ?_
      obtain ⟨h10, eh10, hf⟩ := x_bd hf
      refine x_cVv3 C hR hS (S_X12_sets  eh10) (x_k hR 64 rfl) (by decide) rfl mf_X12_sets tw_1790 (Nat.le_of_ble_eq_true rfl) (Nat.le_of_ble_eq_true rfl) hl.1 (Nat.le_of_ble_eq_true rfl) dX12_pack_158 ⟨Nat.le_refl _, Nat.le_refl _⟩ (fun H locs hR hS => ?_)
      refine lv_aload_n hx hb dX12_pack_161 rfl (lv_at hl 0 rfl) ?_
      refine lv_iload hx hb dX12_pack_162 (lv_at hl 4 rfl) ?_
      refine lv_iconst (v := 2) hx hb dX12_pack_164 rfl ?_
      refine lv_iload_n hx hb dX12_pack_165 rfl (lv_at hl 3 rfl) ?_
      obtain ⟨h11, eh11, hf⟩ := x_bd hf
      refine x_cVv3 C hR hS (S_X12_sets  eh11) (x_k hR 64 rfl) (by decide) rfl mf_X12_sets tw_1790 (Nat.le_of_ble_eq_true rfl) (Nat.le_of_ble_eq_true rfl) hl.1 (Nat.le_of_ble_eq_true rfl) dX12_pack_166 ⟨Nat.le_refl _, Nat.le_refl _⟩ (fun H locs hR hS => ?_)
      refine lv_aload_n hx hb dX12_pack_169 rfl (lv_at hl 0 rfl) ?_
      refine lv_iload hx hb dX12_pack_170 (lv_at hl 4 rfl) ?_
      refine lv_bipush (v := 6) hx hb dX12_pack_172 rfl ?_
      refine lv_iconst (v := 1) hx hb dX12_pack_174 rfl ?_
      obtain ⟨h12, eh12, hf⟩ := x_bd hf
      refine x_cVv3 C hR hS (S_X12_sets  eh12) (x_k hR 64 rfl) (by decide) rfl mf_X12_sets tw_1790 (Nat.le_of_ble_eq_true rfl) (Nat.le_of_ble_eq_true rfl) hl.1 (Nat.le_of_ble_eq_true rfl) dX12_pack_175 ⟨Nat.le_refl _, Nat.le_refl _⟩ (fun H locs hR hS => ?_)
      refine lv_aload_n hx hb dX12_pack_178 rfl (lv_at hl 0 rfl) ?_
      refine gf_12_1 C hR (x_k hR 64 rfl) tw_1544 dX12_pack_179 ?_
      refine lv_iconst (v := 1) hx hb dX12_pack_182 rfl ?_
      refine lv_dup2_11 hx hb dX12_pack_183 rfl rfl ?_
      obtain ⟨g13, hf⟩ := x_gd hf
      refine x_iald C hR (x_k1 (x_k hR 65 rfl)) (x_k2 (x_k hR 65 rfl) g13) dX12_pack_184 ?_
      refine lv_iconst (v := 1) hx hb dX12_pack_185 rfl ?_
      refine lv_iadd hx hb dX12_pack_186 ?_
      obtain ⟨g14, hf⟩ := x_gd hf
      obtain ⟨h15, eh15, hf⟩ := x_lt hf
      refine x_iast C hR hS (x_k1 (x_k hR 65 rfl)) (x_k2 (x_k hR 65 rfl) g14) dX12_pack_187 (fun H locs hR hS => ?_)
      rw [← eh15] at hR
      refine lv_iload hx hb dX12_pack_188 (lv_at hl 4 rfl) ?_
      cases hf
      exact x_iret C hR hS dX12_pack_190
    · have hf := x_in hc hf
      refine lv_aload_n hx hb dX12_pack_127 rfl (lv_at hl 0 rfl) ?_
      refine lv_iload hx hb dX12_pack_128 (lv_at hl 4 rfl) ?_
      refine lv_bipush (v := 29) hx hb dX12_pack_130 rfl ?_
      refine lv_iload hx hb dX12_pack_132 (lv_at hl 5 rfl) ?_
      refine lv_iadd hx hb dX12_pack_134 ?_
      refine lv_iconst (v := (-1)) hx hb dX12_pack_135 rfl ?_
      obtain ⟨h16, eh16, hf⟩ := x_bd hf
      refine x_cVv3 C hR hS (S_X12_sets  eh16) (x_k hR 64 rfl) (by decide) rfl mf_X12_sets tw_1790 (Nat.le_of_ble_eq_true rfl) (Nat.le_of_ble_eq_true rfl) hl.1 (Nat.le_of_ble_eq_true rfl) dX12_pack_136 ⟨Nat.le_refl _, Nat.le_refl _⟩ (fun H locs hR hS => ?_)
      refine lv_iinc (k := 5) (v := _ + 1) (lv' := [(5, _), (0, _), (1, _), (2, _), (3, _), (4, _)]) hx hb dX12_pack_139 hl rfl (x_inc 1 1 rfl _) (Nat.le_of_ble_eq_true rfl) rfl (fun ls hl => ?_)
      refine lv_goto (tgt := 120) hx hb dX12_pack_142 rfl ?_
      exact ih ls _ _ h16 _ _ _ _ _  (lv_sub hl [1, 2, 3, 4, 5, 0] rfl) hR hS hf
set_option maxRecDepth 20000 in
theorem B_X12_pack_95 {p : Program} {l : Launch} {e : Env} {s : State} {m : MethodId} {args : Array Value} {below : List Frame} {meth : Method} {c : Code} {O : XO} {K : XK} {r : Int32} {h' : XH}   (C : x_C p s m args meth c O cX12_pack 6 RX12 (some .int))   : ∀ (n : Nat) (ls : Array Slot) (H : Heap) (locs : List Loc) (h : XH) (v1 : Int32) (v2 : Int32) (v3 : Int32) (v4 : Int32) (v5 : Int32) (hl : lv_has ls 6 [(0, .ref (oX O + 64)), (1, .int v1), (2, .int v2), (3, .int v3), (4, .int v4), (5, .int v5)]) (hR : x_R O K h H) (hS : va_S (oA O) s.heap H locs) (hf : f_X12_pack_95 (oX O) n h v1 v2 v3 v4 v5 = some (r, h')), W p l e (x_rm 2 42) s m args below meth c H locs 0 0 (MQ below (x_Qc O K h' (some (.int r))) args s 0 0 (oA O)) (F0 m 95 ls []) := by
  have hx := C.1
  have hb := C.2.1
  intro n
  induction n with
  | zero =>
    intro ls H locs h v1 v2 v3 v4 v5 hl hR hS hf
    rw [f_X12_pack_95] at hf
    cases hf
  | succ n ih =>
    intro ls H locs h v1 v2 v3 v4 v5 hl hR hS hf
    rw [f_X12_pack_95] at hf
    refine lv_iload hx hb dX12_pack_95 (lv_at hl 5 rfl) ?_
    refine lv_bipush (v := 81) hx hb dX12_pack_97 rfl ?_
    refine lv_icmp_ge (tgt := 117) hx hb dX12_pack_99 rfl (fun hc => ?_) (fun hc => ?_)
    · have hf := x_ip hc hf
      refine lv_iconst (v := 0) hx hb dX12_pack_117 rfl ?_
      refine lv_istore (lv' := [(5, _), (0, _), (1, _), (2, _), (3, _), (4, _)]) hx hb dX12_pack_118 hl (Nat.le_of_ble_eq_true rfl) rfl (fun ls hl => ?_)
      exact B_X12_pack_120  C  x_FU ls _ _ h _ _ _ _ _  (lv_sub hl [1, 2, 3, 4, 5, 0] rfl) hR hS hf
    · have hf := x_in hc hf
      refine lv_aload_n hx hb dX12_pack_102 rfl (lv_at hl 0 rfl) ?_
      refine lv_iload hx hb dX12_pack_103 (lv_at hl 4 rfl) ?_
      refine lv_iload hx hb dX12_pack_105 (lv_at hl 5 rfl) ?_
      refine lv_iconst (v := 0) hx hb dX12_pack_107 rfl ?_
      obtain ⟨h17, eh17, hf⟩ := x_bd hf
      refine x_cVv3 C hR hS (S_X12_sets  eh17) (x_k hR 64 rfl) (by decide) rfl mf_X12_sets tw_1790 (Nat.le_of_ble_eq_true rfl) (Nat.le_of_ble_eq_true rfl) hl.1 (Nat.le_of_ble_eq_true rfl) dX12_pack_108 ⟨Nat.le_refl _, Nat.le_refl _⟩ (fun H locs hR hS => ?_)
      refine lv_iinc (k := 5) (v := _ + 1) (lv' := [(5, _), (0, _), (1, _), (2, _), (3, _), (4, _)]) hx hb dX12_pack_111 hl rfl (x_inc 1 1 rfl _) (Nat.le_of_ble_eq_true rfl) rfl (fun ls hl => ?_)
      refine lv_goto (tgt := 95) hx hb dX12_pack_114 rfl ?_
      exact ih ls _ _ h17 _ _ _ _ _  (lv_sub hl [1, 2, 3, 4, 5, 0] rfl) hR hS hf
set_option maxRecDepth 20000 in
theorem S_X12_pack {l : Launch} {O : XO} {K : XK} {h : XH} {v1 : Int32} {v2 : Int32} {v3 : Int32}  {r : Int32} {h' : XH}  (hf : f_X12_pack (oX O) h v1 v2 v3 = some (r, h')) : x_M l O K yX12_pack cX12_pack 6 (some .int) 2 42 h [.ref (oX O + 64), .int v1, .int v2, .int v3] (some (.int r)) h' := by
  refine x_enter (by decide) (Nat.le_of_ble_eq_true rfl) (fun p e s m args below meth c C hR ls hl => ?_)
  have hS : va_S (oA O) s.heap s.heap [] := va_S.rf
  have hx := C.1
  have hb := C.2.1
  have hl : lv_has ls 6 [(0, .ref (oX O + 64)), (1, .int v1), (2, .int v2), (3, .int v3)] := hl
  rw [f_X12_pack] at hf
  refine lv_aload_n hx hb dX12_pack_0 rfl (lv_at hl 0 rfl) ?_
  refine lv_iconst (v := 0) hx hb dX12_pack_1 rfl ?_
  obtain ⟨h1, eh1, hf⟩ := x_lt hf
  refine pf_12_0 C hR hS (x_k hR 64 rfl) tw_1543 dX12_pack_2 (fun H locs hR hS => ?_)
  rw [← eh1] at hR
  refine lv_aload_n hx hb dX12_pack_5 rfl (lv_at hl 0 rfl) ?_
  refine lv_iload_n hx hb dX12_pack_6 rfl (lv_at hl 1 rfl) ?_
  refine x_cSi1 C hR hS (S_X12_noCard  rfl) mf_X12_noCard tw_1753 (Nat.le_of_ble_eq_true rfl) (Nat.le_of_ble_eq_true rfl) hl.1 (Nat.le_of_ble_eq_true rfl) dX12_pack_7 ⟨Nat.le_refl _, Nat.le_refl _⟩ (fun H locs hR hS => ?_)
  have kM2 : ∀ (ls : Array Slot) (H : Heap) (locs : List Loc), lv_has ls 6 [(0, .ref (oX O + 64)), (1, .int v1), (2, .int v2), (3, .int v3)] → x_R O K h1 H → va_S (oA O) s.heap H locs → W p l e (x_rm 2 42) s m args below meth c H locs 0 0 (MQ below (x_Qc O K h' (some (.int r))) args s 0 0 (oA O)) (F0 m 51 ls [.int (if (f_X12_noCard h1 v1) = 0 then (if (f_X12_in h1 v2 1 51) = 0 then 1 else (if (x_rem v2 2) = 0 then 1 else (if (x_rem v2 13) = 0 then 1 else (if (f_X12_in h1 v3 3 52) = 0 then 1 else 0)))) else 1), .ref (oX O + 64)]) := by
    intro ls H locs hl hR hS
    refine lv_iconst (v := 1) hx hb dX12_pack_51 rfl ?_
    obtain ⟨q3, eq3, hf⟩ := x_bd hf
    refine x_cVi2 C hR hS (S_X12_throwsIf  eq3) (x_k hR 64 rfl) (by decide) rfl mf_X12_throwsIf tw_1741 (Nat.le_of_ble_eq_true rfl) (Nat.le_of_ble_eq_true rfl) hl.1 (Nat.le_of_ble_eq_true rfl) dX12_pack_52 ⟨Nat.le_refl _, Nat.le_refl _⟩ (fun H locs hR hS => ?_)
    refine lv_if_ne (tgt := 82) hx hb dX12_pack_55 rfl (fun hc => ?_) (fun hc => ?_)
    · have hf := x_in hc hf
      exact B_X12_pack_82  C   ls _ _ q3.2  (lv_sub hl [] rfl) hR hS hf
    · have hf := x_ip hc hf
      refine lv_aload_n hx hb dX12_pack_58 rfl (lv_at hl 0 rfl) ?_
      refine lv_aload_n hx hb dX12_pack_59 rfl (lv_at hl 0 rfl) ?_
      refine gf_12_1 C hR (x_k hR 64 rfl) tw_1544 dX12_pack_60 ?_
      refine lv_iconst (v := 1) hx hb dX12_pack_63 rfl ?_
      obtain ⟨g4, hf⟩ := x_gd hf
      refine x_iald C hR (x_k1 (x_k hR 65 rfl)) (x_k2 (x_k hR 65 rfl) g4) dX12_pack_64 ?_
      refine lv_bipush (v := 8) hx hb dX12_pack_65 rfl ?_
      have kM5 : ∀ (ls : Array Slot) (H : Heap) (locs : List Loc), lv_has ls 6 [(0, .ref (oX O + 64)), (1, .int v1), (2, .int v2), (3, .int v3)] → x_R O K q3.2 H → va_S (oA O) s.heap H locs → W p l e (x_rm 2 42) s m args below meth c H locs 0 0 (MQ below (x_Qc O K h' (some (.int r))) args s 0 0 (oA O)) (F0 m 75 ls [.int (if (q3.2.1 (oX O + 65) (1 : Int32).toNatClampNeg) = 8 then 1 else 0), .ref (oX O + 64)]) := by
        intro ls H locs hl hR hS
        refine lv_iconst (v := 2) hx hb dX12_pack_75 rfl ?_
        obtain ⟨q6, eq6, hf⟩ := x_bd hf
        refine x_cVi2 C hR hS (S_X12_throwsIf  eq6) (x_k hR 64 rfl) (by decide) rfl mf_X12_throwsIf tw_1741 (Nat.le_of_ble_eq_true rfl) (Nat.le_of_ble_eq_true rfl) hl.1 (Nat.le_of_ble_eq_true rfl) dX12_pack_76 ⟨Nat.le_refl _, Nat.le_refl _⟩ (fun H locs hR hS => ?_)
        refine lv_if_eq (tgt := 84) hx hb dX12_pack_79 rfl (fun hc => ?_) (fun hc => ?_)
        · have hf := x_ip hc hf
          refine lv_aload_n hx hb dX12_pack_84 rfl (lv_at hl 0 rfl) ?_
          refine gf_12_1 C hR (x_k hR 64 rfl) tw_1544 dX12_pack_85 ?_
          refine lv_iconst (v := 1) hx hb dX12_pack_88 rfl ?_
          obtain ⟨g7, hf⟩ := x_gd hf
          refine x_iald C hR (x_k1 (x_k hR 65 rfl)) (x_k2 (x_k hR 65 rfl) g7) dX12_pack_89 ?_
          obtain ⟨t8, et8, hf⟩ := x_lt hf
          refine x_nmi et8 ?_
          refine lv_istore (lv' := [(4, _), (0, _), (1, _), (2, _), (3, _)]) hx hb dX12_pack_90 hl (Nat.le_of_ble_eq_true rfl) rfl (fun ls hl => ?_)
          refine lv_iconst (v := 0) hx hb dX12_pack_92 rfl ?_
          refine lv_istore (lv' := [(5, _), (4, _), (0, _), (1, _), (2, _), (3, _)]) hx hb dX12_pack_93 hl (Nat.le_of_ble_eq_true rfl) rfl (fun ls hl => ?_)
          exact B_X12_pack_95  C  x_FU ls _ _ q6.2 _ _ _ _ _  (lv_sub hl [2, 3, 4, 5, 1, 0] rfl) hR hS hf
        · have hf := x_in hc hf
          exact B_X12_pack_82  C   ls _ _ q6.2  (lv_sub hl [] rfl) hR hS hf
      refine lv_icmp_ne (tgt := 74) hx hb dX12_pack_67 rfl (fun hc => ?_) (fun hc => ?_)
      · try simp only [if_neg hc] at kM5
        refine lv_iconst (v := 0) hx hb dX12_pack_74 rfl ?_
        exact kM5 ls _ _ (lv_sub hl [0, 1, 2, 3] rfl) hR hS
      · try simp only [if_pos hc] at kM5
        refine lv_iconst (v := 1) hx hb dX12_pack_70 rfl ?_
        refine lv_goto (tgt := 75) hx hb dX12_pack_71 rfl ?_
        exact kM5 ls _ _ (lv_sub hl [0, 1, 2, 3] rfl) hR hS
  refine lv_if_ne (tgt := 46) hx hb dX12_pack_10 rfl (fun hc => ?_) (fun hc => ?_)
  · try simp only [if_neg hc] at kM2
    refine lv_iconst (v := 1) hx hb dX12_pack_46 rfl ?_
    refine lv_goto (tgt := 51) hx hb dX12_pack_47 rfl ?_
    exact kM2 ls _ _ (lv_sub hl [0, 1, 2, 3] rfl) hR hS
  · try simp only [if_pos hc] at kM2
    refine lv_iload_n hx hb dX12_pack_13 rfl (lv_at hl 2 rfl) ?_
    refine lv_iconst (v := 1) hx hb dX12_pack_14 rfl ?_
    refine lv_bipush (v := 51) hx hb dX12_pack_15 rfl ?_
    refine x_cSi3 C hR hS (S_X12_in  rfl) mf_X12_in tw_1756 (Nat.le_of_ble_eq_true rfl) (Nat.le_of_ble_eq_true rfl) hl.1 (Nat.le_of_ble_eq_true rfl) dX12_pack_17 ⟨Nat.le_refl _, Nat.le_refl _⟩ (fun H locs hR hS => ?_)
    refine lv_if_eq (tgt := 46) hx hb dX12_pack_20 rfl (fun hc => ?_) (fun hc => ?_)
    · try simp only [if_pos hc] at kM2
      refine lv_iconst (v := 1) hx hb dX12_pack_46 rfl ?_
      refine lv_goto (tgt := 51) hx hb dX12_pack_47 rfl ?_
      exact kM2 ls _ _ (lv_sub hl [0, 1, 2, 3] rfl) hR hS
    · try simp only [if_neg hc] at kM2
      refine lv_iload_n hx hb dX12_pack_23 rfl (lv_at hl 2 rfl) ?_
      refine lv_iconst (v := 2) hx hb dX12_pack_24 rfl ?_
      refine lv_irem hx hb dX12_pack_25 (by decide) ?_
      refine lv_if_eq (tgt := 46) hx hb dX12_pack_26 rfl (fun hc => ?_) (fun hc => ?_)
      · try simp only [if_pos hc] at kM2
        refine lv_iconst (v := 1) hx hb dX12_pack_46 rfl ?_
        refine lv_goto (tgt := 51) hx hb dX12_pack_47 rfl ?_
        exact kM2 ls _ _ (lv_sub hl [0, 1, 2, 3] rfl) hR hS
      · try simp only [if_neg hc] at kM2
        refine lv_iload_n hx hb dX12_pack_29 rfl (lv_at hl 2 rfl) ?_
        refine lv_bipush (v := 13) hx hb dX12_pack_30 rfl ?_
        refine lv_irem hx hb dX12_pack_32 (by decide) ?_
        refine lv_if_eq (tgt := 46) hx hb dX12_pack_33 rfl (fun hc => ?_) (fun hc => ?_)
        · try simp only [if_pos hc] at kM2
          refine lv_iconst (v := 1) hx hb dX12_pack_46 rfl ?_
          refine lv_goto (tgt := 51) hx hb dX12_pack_47 rfl ?_
          exact kM2 ls _ _ (lv_sub hl [0, 1, 2, 3] rfl) hR hS
        · try simp only [if_neg hc] at kM2
          refine lv_iload_n hx hb dX12_pack_36 rfl (lv_at hl 3 rfl) ?_
          refine lv_iconst (v := 3) hx hb dX12_pack_37 rfl ?_
          refine lv_bipush (v := 52) hx hb dX12_pack_38 rfl ?_
          refine x_cSi3 C hR hS (S_X12_in  rfl) mf_X12_in tw_1756 (Nat.le_of_ble_eq_true rfl) (Nat.le_of_ble_eq_true rfl) hl.1 (Nat.le_of_ble_eq_true rfl) dX12_pack_40 ⟨Nat.le_refl _, Nat.le_refl _⟩ (fun H locs hR hS => ?_)
          refine lv_if_ne (tgt := 50) hx hb dX12_pack_43 rfl (fun hc => ?_) (fun hc => ?_)
          · try simp only [if_neg hc] at kM2
            refine lv_iconst (v := 0) hx hb dX12_pack_50 rfl ?_
            exact kM2 ls _ _ (lv_sub hl [0, 1, 2, 3] rfl) hR hS
          · try simp only [if_pos hc] at kM2
            refine lv_iconst (v := 1) hx hb dX12_pack_46 rfl ?_
            refine lv_goto (tgt := 51) hx hb dX12_pack_47 rfl ?_
            exact kM2 ls _ _ (lv_sub hl [0, 1, 2, 3] rfl) hR hS
def f_X12_card (x : Nat) (h : XH) (v1 : Int32) (v2 : Int32) : Option (Int32 × XH) := x_let (x_i h (x + 64) 0 0) (fun h1 => Option.bind (f_X12_noPlace x h1 v1 v2) (fun v_2 => Option.bind (f_X12_throwsIf x h1 v_2 1) (fun q3 => if q3.1 = 0 then Option.bind (f_X12_cardOf x q3.2 v1 v2) (fun v_4 => some (v_4, q3.2)) else some (0, q3.2))))
set_option maxRecDepth 20000 in
theorem S_X12_card {l : Launch} {O : XO} {K : XK} {h : XH} {v1 : Int32} {v2 : Int32}  {r : Int32} {h' : XH}  (hf : f_X12_card (oX O) h v1 v2 = some (r, h')) : x_M l O K yX12_card cX12_card 3 (some .int) 4 87 h [.ref (oX O + 64), .int v1, .int v2] (some (.int r)) h' := by
  refine x_enter (by decide) (Nat.le_of_ble_eq_true rfl) (fun p e s m args below meth c C hR ls hl => ?_)
  have hS : va_S (oA O) s.heap s.heap [] := va_S.rf
  have hx := C.1
  have hb := C.2.1
  have hl : lv_has ls 3 [(0, .ref (oX O + 64)), (1, .int v1), (2, .int v2)] := hl
  rw [f_X12_card] at hf
  refine lv_aload_n hx hb dX12_card_0 rfl (lv_at hl 0 rfl) ?_
  refine lv_iconst (v := 0) hx hb dX12_card_1 rfl ?_
  obtain ⟨h1, eh1, hf⟩ := x_lt hf
  refine pf_12_0 C hR hS (x_k hR 64 rfl) tw_1543 dX12_card_2 (fun H locs hR hS => ?_)
  rw [← eh1] at hR
  refine lv_aload_n hx hb dX12_card_5 rfl (lv_at hl 0 rfl) ?_
  refine lv_aload_n hx hb dX12_card_6 rfl (lv_at hl 0 rfl) ?_
  refine lv_iload_n hx hb dX12_card_7 rfl (lv_at hl 1 rfl) ?_
  refine lv_iload_n hx hb dX12_card_8 rfl (lv_at hl 2 rfl) ?_
  obtain ⟨v_2, ev_2, hf⟩ := x_bd hf
  refine x_cVi2 C hR hS (S_X12_noPlace  ev_2) (x_k hR 64 rfl) (by decide) rfl mf_X12_noPlace tw_1798 (Nat.le_of_ble_eq_true rfl) (Nat.le_of_ble_eq_true rfl) hl.1 (Nat.le_of_ble_eq_true rfl) dX12_card_9 ⟨Nat.le_refl _, Nat.le_refl _⟩ (fun H locs hR hS => ?_)
  refine lv_iconst (v := 1) hx hb dX12_card_12 rfl ?_
  obtain ⟨q3, eq3, hf⟩ := x_bd hf
  refine x_cVi2 C hR hS (S_X12_throwsIf  eq3) (x_k hR 64 rfl) (by decide) rfl mf_X12_throwsIf tw_1741 (Nat.le_of_ble_eq_true rfl) (Nat.le_of_ble_eq_true rfl) hl.1 (Nat.le_of_ble_eq_true rfl) dX12_card_13 ⟨Nat.le_refl _, Nat.le_refl _⟩ (fun H locs hR hS => ?_)
  refine lv_if_eq (tgt := 23) hx hb dX12_card_16 rfl (fun hc => ?_) (fun hc => ?_)
  · have hf := x_ip hc hf
    refine lv_aload_n hx hb dX12_card_23 rfl (lv_at hl 0 rfl) ?_
    refine lv_iload_n hx hb dX12_card_24 rfl (lv_at hl 1 rfl) ?_
    refine lv_iload_n hx hb dX12_card_25 rfl (lv_at hl 2 rfl) ?_
    obtain ⟨v_4, ev_4, hf⟩ := x_bd hf
    refine x_cVi2 C hR hS (S_X12_cardOf  ev_4) (x_k hR 64 rfl) (by decide) rfl mf_X12_cardOf tw_1810 (Nat.le_of_ble_eq_true rfl) (Nat.le_of_ble_eq_true rfl) hl.1 (Nat.le_of_ble_eq_true rfl) dX12_card_26 ⟨Nat.le_refl _, Nat.le_refl _⟩ (fun H locs hR hS => ?_)
    cases hf
    exact x_iret C hR hS dX12_card_29
  · have hf := x_in hc hf
    refine lv_iconst (v := 0) hx hb dX12_card_19 rfl ?_
    refine lv_goto (tgt := 29) hx hb dX12_card_20 rfl ?_
    cases hf
    exact x_iret C hR hS dX12_card_29
def f_X12_noSeconds (h : XH) (v0 : Int32) : Int32 := (if (f_X12_in h v0 1 60) = 0 then 1 else 0)
set_option maxRecDepth 20000 in
theorem S_X12_noSeconds {l : Launch} {O : XO} {K : XK} {h : XH} {v0 : Int32}  {r : Int32}  (hf : f_X12_noSeconds h v0 = r) : x_M l O K yX12_noSeconds cX12_noSeconds 1 (some .boolean) 1 22 h [.int v0] (some (.int r)) h := by
  refine x_enter (by decide) (Nat.le_of_ble_eq_true rfl) (fun p e s m args below meth c C hR ls hl => ?_)
  have hS : va_S (oA O) s.heap s.heap [] := va_S.rf
  have hx := C.1
  have hb := C.2.1
  have hl : lv_has ls 1 [(0, .int v0)] := hl
  rw [f_X12_noSeconds] at hf
  refine lv_iload_n hx hb dX12_noSeconds_0 rfl (lv_at hl 0 rfl) ?_
  refine lv_iconst (v := 1) hx hb dX12_noSeconds_1 rfl ?_
  refine lv_bipush (v := 60) hx hb dX12_noSeconds_2 rfl ?_
  refine x_cSi3 C hR hS (S_X12_in  rfl) mf_X12_in tw_1756 (Nat.le_of_ble_eq_true rfl) (Nat.le_of_ble_eq_true rfl) hl.1 (Nat.le_of_ble_eq_true rfl) dX12_noSeconds_4 ⟨Nat.le_refl _, Nat.le_refl _⟩ (fun H locs hR hS => ?_)
  have kM1 : ∀ (ls : Array Slot) (H : Heap) (locs : List Loc), lv_has ls 1 [] → x_R O K h H → va_S (oA O) s.heap H locs → W p l e (x_rm 1 22) s m args below meth c H locs 0 0 (MQ below (x_Qc O K h (some (.int r))) args s 0 0 (oA O)) (F0 m 15 ls [.int (if (f_X12_in h v0 1 60) = 0 then 1 else 0)]) := by
    intro ls H locs hl hR hS
    cases hf
    exact x_zret C hR hS (by (repeat' split) <;> first | exact Or.inl rfl | exact Or.inr rfl) dX12_noSeconds_15
  refine lv_if_ne (tgt := 14) hx hb dX12_noSeconds_7 rfl (fun hc => ?_) (fun hc => ?_)
  · try simp only [if_neg hc] at kM1
    refine lv_iconst (v := 0) hx hb dX12_noSeconds_14 rfl ?_
    exact kM1 ls _ _ (lv_sub hl [] rfl) hR hS
  · try simp only [if_pos hc] at kM1
    refine lv_iconst (v := 1) hx hb dX12_noSeconds_10 rfl ?_
    refine lv_goto (tgt := 15) hx hb dX12_noSeconds_11 rfl ?_
    exact kM1 ls _ _ (lv_sub hl [] rfl) hR hS
def f_X12_touches_2 (x : Nat) : Nat → XH → Int32 → Int32 → Int32 → Option (XH)
  | 0, _, _, _, _ => none
  | n + 1, h, v1, v2, v3 => Option.bind (f_X12_places x h v1) (fun v_1 => if v_1 ≤ v3 then if x_b 6 6927 = true then Option.bind (f_X12_places x h v1) (fun v_3 => if x_b 6 6927 = true then x_let (x_i h (x + 65) (6 : Int32).toNatClampNeg ((h.1 (x + 65) (6 : Int32).toNatClampNeg) + (v_3 * v2))) (fun h5 => some h5) else none) else none else if x_b 6 6927 = true then Option.bind (f_X12_sets x h v1 (9 + v3) ((h.1 (x + 65) (6 : Int32).toNatClampNeg) + (v3 * v2))) (fun h7 => f_X12_touches_2 x n h7 v1 v2 (v3 + 1)) else none)
def f_X12_touches (x : Nat) (h : XH) (v1 : Int32) (v2 : Int32) : Option (XH) := f_X12_touches_2 x x_FU h v1 v2 0
set_option maxRecDepth 20000 in
theorem B_X12_touches_2 {p : Program} {l : Launch} {e : Env} {s : State} {m : MethodId} {args : Array Value} {below : List Frame} {meth : Method} {c : Code} {O : XO} {K : XK} {h' : XH}   (C : x_C p s m args meth c O cX12_touches 4 RX12 none)   : ∀ (n : Nat) (ls : Array Slot) (H : Heap) (locs : List Loc) (h : XH) (v1 : Int32) (v2 : Int32) (v3 : Int32) (hl : lv_has ls 4 [(0, .ref (oX O + 64)), (1, .int v1), (2, .int v2), (3, .int v3)]) (hR : x_R O K h H) (hS : va_S (oA O) s.heap H locs) (hf : f_X12_touches_2 (oX O) n h v1 v2 v3 = some h'), W p l e (x_rm 2 43) s m args below meth c H locs 0 0 (MQ below (x_Qc O K h' none) args s 0 0 (oA O)) (F0 m 2 ls []) := by
  have hx := C.1
  have hb := C.2.1
  intro n
  induction n with
  | zero =>
    intro ls H locs h v1 v2 v3 hl hR hS hf
    rw [f_X12_touches_2] at hf
    cases hf
  | succ n ih =>
    intro ls H locs h v1 v2 v3 hl hR hS hf
    rw [f_X12_touches_2] at hf
    refine lv_iload_n hx hb dX12_touches_2 rfl (lv_at hl 3 rfl) ?_
    refine lv_aload_n hx hb dX12_touches_3 rfl (lv_at hl 0 rfl) ?_
    refine lv_iload_n hx hb dX12_touches_4 rfl (lv_at hl 1 rfl) ?_
    obtain ⟨v_1, ev_1, hf⟩ := x_bd hf
    refine x_cVi1 C hR hS (S_X12_places  ev_1) (x_k hR 64 rfl) (by decide) rfl mf_X12_places tw_1833 (Nat.le_of_ble_eq_true rfl) (Nat.le_of_ble_eq_true rfl) hl.1 (Nat.le_of_ble_eq_true rfl) dX12_touches_5 ⟨Nat.le_refl _, Nat.le_refl _⟩ (fun H locs hR hS => ?_)
    refine lv_icmp_ge (tgt := 37) hx hb dX12_touches_8 rfl (fun hc => ?_) (fun hc => ?_)
    · have hf := x_ip hc hf
      refine lv_aload_n hx hb dX12_touches_37 rfl (lv_at hl 0 rfl) ?_
      refine gf_12_1 C hR (x_k hR 64 rfl) tw_1544 dX12_touches_38 ?_
      refine lv_bipush (v := 6) hx hb dX12_touches_41 rfl ?_
      refine lv_dup2_11 hx hb dX12_touches_43 rfl rfl ?_
      obtain ⟨g2, hf⟩ := x_gd hf
      refine x_iald C hR (x_k1 (x_k hR 65 rfl)) (x_k2 (x_k hR 65 rfl) g2) dX12_touches_44 ?_
      refine lv_aload_n hx hb dX12_touches_45 rfl (lv_at hl 0 rfl) ?_
      refine lv_iload_n hx hb dX12_touches_46 rfl (lv_at hl 1 rfl) ?_
      obtain ⟨v_3, ev_3, hf⟩ := x_bd hf
      refine x_cVi1 C hR hS (S_X12_places  ev_3) (x_k hR 64 rfl) (by decide) rfl mf_X12_places tw_1833 (Nat.le_of_ble_eq_true rfl) (Nat.le_of_ble_eq_true rfl) hl.1 (Nat.le_of_ble_eq_true rfl) dX12_touches_47 ⟨Nat.le_refl _, Nat.le_refl _⟩ (fun H locs hR hS => ?_)
      refine lv_iload_n hx hb dX12_touches_50 rfl (lv_at hl 2 rfl) ?_
      refine lv_imul hx hb dX12_touches_51 ?_
      refine lv_iadd hx hb dX12_touches_52 ?_
      obtain ⟨g4, hf⟩ := x_gd hf
      obtain ⟨h5, eh5, hf⟩ := x_lt hf
      refine x_iast C hR hS (x_k1 (x_k hR 65 rfl)) (x_k2 (x_k hR 65 rfl) g4) dX12_touches_53 (fun H locs hR hS => ?_)
      rw [← eh5] at hR
      cases hf
      exact x_vret C hR hS dX12_touches_54
    · have hf := x_in hc hf
      refine lv_aload_n hx hb dX12_touches_11 rfl (lv_at hl 0 rfl) ?_
      refine lv_iload_n hx hb dX12_touches_12 rfl (lv_at hl 1 rfl) ?_
      refine lv_bipush (v := 9) hx hb dX12_touches_13 rfl ?_
      refine lv_iload_n hx hb dX12_touches_15 rfl (lv_at hl 3 rfl) ?_
      refine lv_iadd hx hb dX12_touches_16 ?_
      refine lv_aload_n hx hb dX12_touches_17 rfl (lv_at hl 0 rfl) ?_
      refine gf_12_1 C hR (x_k hR 64 rfl) tw_1544 dX12_touches_18 ?_
      refine lv_bipush (v := 6) hx hb dX12_touches_21 rfl ?_
      obtain ⟨g6, hf⟩ := x_gd hf
      refine x_iald C hR (x_k1 (x_k hR 65 rfl)) (x_k2 (x_k hR 65 rfl) g6) dX12_touches_23 ?_
      refine lv_iload_n hx hb dX12_touches_24 rfl (lv_at hl 3 rfl) ?_
      refine lv_iload_n hx hb dX12_touches_25 rfl (lv_at hl 2 rfl) ?_
      refine lv_imul hx hb dX12_touches_26 ?_
      refine lv_iadd hx hb dX12_touches_27 ?_
      obtain ⟨h7, eh7, hf⟩ := x_bd hf
      refine x_cVv3 C hR hS (S_X12_sets  eh7) (x_k hR 64 rfl) (by decide) rfl mf_X12_sets tw_1790 (Nat.le_of_ble_eq_true rfl) (Nat.le_of_ble_eq_true rfl) hl.1 (Nat.le_of_ble_eq_true rfl) dX12_touches_28 ⟨Nat.le_refl _, Nat.le_refl _⟩ (fun H locs hR hS => ?_)
      refine lv_iinc (k := 3) (v := _ + 1) (lv' := [(3, _), (0, _), (1, _), (2, _)]) hx hb dX12_touches_31 hl rfl (x_inc 1 1 rfl _) (Nat.le_of_ble_eq_true rfl) rfl (fun ls hl => ?_)
      refine lv_goto (tgt := 2) hx hb dX12_touches_34 rfl ?_
      exact ih ls _ _ h7 _ _ _  (lv_sub hl [1, 2, 3, 0] rfl) hR hS hf
set_option maxRecDepth 20000 in
theorem S_X12_touches {l : Launch} {O : XO} {K : XK} {h : XH} {v1 : Int32} {v2 : Int32}  {h' : XH}  (hf : f_X12_touches (oX O) h v1 v2 = some h') : x_M l O K yX12_touches cX12_touches 4 none 2 43 h [.ref (oX O + 64), .int v1, .int v2] none h' := by
  refine x_enter (by decide) (Nat.le_of_ble_eq_true rfl) (fun p e s m args below meth c C hR ls hl => ?_)
  have hS : va_S (oA O) s.heap s.heap [] := va_S.rf
  have hx := C.1
  have hb := C.2.1
  have hl : lv_has ls 4 [(0, .ref (oX O + 64)), (1, .int v1), (2, .int v2)] := hl
  rw [f_X12_touches] at hf
  refine lv_iconst (v := 0) hx hb dX12_touches_0 rfl ?_
  refine lv_istore_n (lv' := [(3, _), (0, _), (1, _), (2, _)]) hx hb dX12_touches_1 rfl hl (Nat.le_of_ble_eq_true rfl) rfl (fun ls hl => ?_)
  exact B_X12_touches_2  C  x_FU ls _ _ h _ _ _  (lv_sub hl [1, 2, 3, 0] rfl) hR hS hf
def f_X12_put_48 (x : Nat) (h : XH) : Option (Int32 × XH) := some (0, h)
def f_X12_put_139 (x : Nat) (h : XH) (v1 : Int32) (v2 : Int32) (v3 : Int32) (v4 : Int32) (v5 : Int32) (v7 : Int32) (s1 : Int32) : Option (Int32 × XH) := Option.bind (f_X12_throwsIf x h s1 3) (fun q10 => if q10.1 = 0 then if x_b 7 6927 = true then if x_b 7 6927 = true then x_let (x_i q10.2 (x + 65) (7 : Int32).toNatClampNeg ((q10.2.1 (x + 65) (7 : Int32).toNatClampNeg) + 1)) (fun h13 => if x_b 7 6927 = true then Option.bind (f_X12_sets x h13 v1 3 (h13.1 (x + 65) (7 : Int32).toNatClampNeg)) (fun h15 => Option.bind (f_X12_sets x h15 v1 4 v2) (fun h16 => Option.bind (f_X12_sets x h16 v1 5 v3) (fun h17 => Option.bind (f_X12_sets x h17 v1 6 v4) (fun h18 => Option.bind (f_X12_sets x h18 v1 7 v5) (fun h19 => Option.bind (f_X12_touches x h19 v1 v5) (fun h20 => some (v7, h20))))))) else none) else none else none else some (0, q10.2))
def f_X12_put_134 (x : Nat) (h : XH) (v1 : Int32) (v2 : Int32) (v3 : Int32) (v4 : Int32) (v5 : Int32) (v7 : Int32) : Option (Int32 × XH) := f_X12_put_139 x h v1 v2 v3 v4 v5 v7 1
def f_X12_put_95 (x : Nat) (h : XH) (v1 : Int32) (v2 : Int32) (v3 : Int32) (v4 : Int32) (v5 : Int32) (v6 : Int32) (s0 : Int32) : Option (Int32 × XH) := if v6 = 0 then Option.bind (f_X12_doors x h v2) (fun v_21 => if v_21 < (v3 + s0) then f_X12_put_134 x h v1 v2 v3 v4 v5 s0 else if x_b 6 6927 = true then Option.bind (f_X12_throwsIf x h (if ((h.1 (x + 65) (6 : Int32).toNatClampNeg) + (s0 * v5)) ≤ 1000000 then 0 else 1) 3) (fun q24 => if q24.1 = 0 then if x_b 7 6927 = true then if x_b 7 6927 = true then x_let (x_i q24.2 (x + 65) (7 : Int32).toNatClampNeg ((q24.2.1 (x + 65) (7 : Int32).toNatClampNeg) + 1)) (fun h27 => if x_b 7 6927 = true then Option.bind (f_X12_sets x h27 v1 3 (h27.1 (x + 65) (7 : Int32).toNatClampNeg)) (fun h29 => Option.bind (f_X12_sets x h29 v1 4 v2) (fun h30 => Option.bind (f_X12_sets x h30 v1 5 v3) (fun h31 => Option.bind (f_X12_sets x h31 v1 6 v4) (fun h32 => Option.bind (f_X12_sets x h32 v1 7 v5) (fun h33 => Option.bind (f_X12_touches x h33 v1 v5) (fun h34 => some (s0, h34))))))) else none) else none else none else some (0, q24.2)) else none) else f_X12_put_134 x h v1 v2 v3 v4 v5 s0
def f_X12_put_28 (x : Nat) (h : XH) (v1 : Int32) (v2 : Int32) (v3 : Int32) (v4 : Int32) (v5 : Int32) (s1 : Int32) : Option (Int32 × XH) := Option.bind (f_X12_throwsIf x h s1 1) (fun q3 => if q3.1 = 0 then Option.bind (f_X12_isPut x q3.2 v1) (fun v_4 => Option.bind (f_X12_throwsIf x q3.2 v_4 2) (fun q5 => if q5.1 = 0 then x_let ((if (f_X12_in q5.2 v4 1 3) = 0 then 1 else (if (f_X12_noSeconds q5.2 v5) = 0 then 0 else 1)) : Int32) (fun t7 => if t7 = 0 then Option.bind (f_X12_of x q5.2 v1 2) (fun v_8 => Option.bind (f_X12_placesFor q5.2 v_8 v4) (fun v_9 => f_X12_put_95 x q5.2 v1 v2 v3 v4 v5 t7 v_9)) else f_X12_put_95 x q5.2 v1 v2 v3 v4 v5 t7 0) else f_X12_put_48 x q5.2)) else f_X12_put_48 x q3.2)
def f_X12_put_23 (x : Nat) (h : XH) (v1 : Int32) (v2 : Int32) (v3 : Int32) (v4 : Int32) (v5 : Int32) : Option (Int32 × XH) := f_X12_put_28 x h v1 v2 v3 v4 v5 1
def f_X12_put (x : Nat) (h : XH) (v1 : Int32) (v2 : Int32) (v3 : Int32) (v4 : Int32) (v5 : Int32) : Option (Int32 × XH) := x_let (x_i h (x + 64) 0 0) (fun h1 => Option.bind (f_X12_noPack x h1 v1) (fun v_2 => if v_2 = 0 then Option.bind (f_X12_noDoor x h1 v2 v3) (fun v_35 => Option.bind (f_X12_throwsIf x h1 (if v_35 = 0 then 0 else 1) 1) (fun q37 => if q37.1 = 0 then Option.bind (f_X12_isPut x q37.2 v1) (fun v_38 => Option.bind (f_X12_throwsIf x q37.2 v_38 2) (fun q39 => if q39.1 = 0 then x_let ((if (f_X12_in q39.2 v4 1 3) = 0 then 1 else (if (f_X12_noSeconds q39.2 v5) = 0 then 0 else 1)) : Int32) (fun t41 => if t41 = 0 then Option.bind (f_X12_of x q39.2 v1 2) (fun v_42 => Option.bind (f_X12_placesFor q39.2 v_42 v4) (fun v_43 => f_X12_put_95 x q39.2 v1 v2 v3 v4 v5 t41 v_43)) else f_X12_put_95 x q39.2 v1 v2 v3 v4 v5 t41 0) else f_X12_put_48 x q39.2)) else f_X12_put_48 x q37.2)) else f_X12_put_23 x h1 v1 v2 v3 v4 v5))
set_option maxRecDepth 20000 in
theorem B_X12_put_48 {p : Program} {l : Launch} {e : Env} {s : State} {m : MethodId} {args : Array Value} {below : List Frame} {meth : Method} {c : Code} {O : XO} {K : XK} {r : Int32} {h' : XH}   (C : x_C p s m args meth c O cX12_put 8 RX12 (some .int))   (ls : Array Slot) (H : Heap) (locs : List Loc) (h : XH) (hl : lv_has ls 8 []) (hR : x_R O K h H) (hS : va_S (oA O) s.heap H locs) (hf : f_X12_put_48 (oX O) h = some (r, h')) : W p l e (x_rm 3 66) s m args below meth c H locs 0 0 (MQ below (x_Qc O K h' (some (.int r))) args s 0 0 (oA O)) (F0 m 48 ls []) := by
  have hx := C.1
  have hb := C.2.1
  rw [f_X12_put_48] at hf
  refine lv_iconst (v := 0) hx hb dX12_put_48 rfl ?_
  cases hf
  exact x_iret C hR hS dX12_put_49
set_option maxRecDepth 20000 in
theorem B_X12_put_139 {p : Program} {l : Launch} {e : Env} {s : State} {m : MethodId} {args : Array Value} {below : List Frame} {meth : Method} {c : Code} {O : XO} {K : XK} {r : Int32} {h' : XH}   (C : x_C p s m args meth c O cX12_put 8 RX12 (some .int))   (ls : Array Slot) (H : Heap) (locs : List Loc) (h : XH) (v1 : Int32) (v2 : Int32) (v3 : Int32) (v4 : Int32) (v5 : Int32) (v7 : Int32) (s1 : Int32) (hl : lv_has ls 8 [(0, .ref (oX O + 64)), (1, .int v1), (2, .int v2), (3, .int v3), (4, .int v4), (5, .int v5), (7, .int v7)]) (hR : x_R O K h H) (hS : va_S (oA O) s.heap H locs) (hf : f_X12_put_139 (oX O) h v1 v2 v3 v4 v5 v7 s1 = some (r, h')) : W p l e (x_rm 3 66) s m args below meth c H locs 0 0 (MQ below (x_Qc O K h' (some (.int r))) args s 0 0 (oA O)) (F0 m 139 ls [.int s1, .ref (oX O + 64)]) := by
  have hx := C.1
  have hb := C.2.1
  rw [f_X12_put_139] at hf
  refine lv_iconst (v := 3) hx hb dX12_put_139 rfl ?_
  obtain ⟨q10, eq10, hf⟩ := x_bd hf
  refine x_cVi2 C hR hS (S_X12_throwsIf  eq10) (x_k hR 64 rfl) (by decide) rfl mf_X12_throwsIf tw_1741 (Nat.le_of_ble_eq_true rfl) (Nat.le_of_ble_eq_true rfl) hl.1 (Nat.le_of_ble_eq_true rfl) dX12_put_140 ⟨Nat.le_refl _, Nat.le_refl _⟩ (fun H locs hR hS => ?_)
  refine lv_if_eq (tgt := 148) hx hb dX12_put_143 rfl (fun hc => ?_) (fun hc => ?_)
  · have hf := x_ip hc hf
    refine lv_aload_n hx hb dX12_put_148 rfl (lv_at hl 0 rfl) ?_
    refine gf_12_1 C hR (x_k hR 64 rfl) tw_1544 dX12_put_149 ?_
    refine lv_bipush (v := 7) hx hb dX12_put_152 rfl ?_
    refine lv_dup2_11 hx hb dX12_put_154 rfl rfl ?_
    obtain ⟨g11, hf⟩ := x_gd hf
    refine x_iald C hR (x_k1 (x_k hR 65 rfl)) (x_k2 (x_k hR 65 rfl) g11) dX12_put_155 ?_
    refine lv_iconst (v := 1) hx hb dX12_put_156 rfl ?_
    refine lv_iadd hx hb dX12_put_157 ?_
    obtain ⟨g12, hf⟩ := x_gd hf
    obtain ⟨h13, eh13, hf⟩ := x_lt hf
    refine x_iast C hR hS (x_k1 (x_k hR 65 rfl)) (x_k2 (x_k hR 65 rfl) g12) dX12_put_158 (fun H locs hR hS => ?_)
    rw [← eh13] at hR
    refine lv_aload_n hx hb dX12_put_159 rfl (lv_at hl 0 rfl) ?_
    refine lv_iload_n hx hb dX12_put_160 rfl (lv_at hl 1 rfl) ?_
    refine lv_iconst (v := 3) hx hb dX12_put_161 rfl ?_
    refine lv_aload_n hx hb dX12_put_162 rfl (lv_at hl 0 rfl) ?_
    refine gf_12_1 C hR (x_k hR 64 rfl) tw_1544 dX12_put_163 ?_
    refine lv_bipush (v := 7) hx hb dX12_put_166 rfl ?_
    obtain ⟨g14, hf⟩ := x_gd hf
    refine x_iald C hR (x_k1 (x_k hR 65 rfl)) (x_k2 (x_k hR 65 rfl) g14) dX12_put_168 ?_
    obtain ⟨h15, eh15, hf⟩ := x_bd hf
    refine x_cVv3 C hR hS (S_X12_sets  eh15) (x_k hR 64 rfl) (by decide) rfl mf_X12_sets tw_1790 (Nat.le_of_ble_eq_true rfl) (Nat.le_of_ble_eq_true rfl) hl.1 (Nat.le_of_ble_eq_true rfl) dX12_put_169 ⟨Nat.le_refl _, Nat.le_refl _⟩ (fun H locs hR hS => ?_)
    refine lv_aload_n hx hb dX12_put_172 rfl (lv_at hl 0 rfl) ?_
    refine lv_iload_n hx hb dX12_put_173 rfl (lv_at hl 1 rfl) ?_
    refine lv_iconst (v := 4) hx hb dX12_put_174 rfl ?_
    refine lv_iload_n hx hb dX12_put_175 rfl (lv_at hl 2 rfl) ?_
    obtain ⟨h16, eh16, hf⟩ := x_bd hf
    refine x_cVv3 C hR hS (S_X12_sets  eh16) (x_k hR 64 rfl) (by decide) rfl mf_X12_sets tw_1790 (Nat.le_of_ble_eq_true rfl) (Nat.le_of_ble_eq_true rfl) hl.1 (Nat.le_of_ble_eq_true rfl) dX12_put_176 ⟨Nat.le_refl _, Nat.le_refl _⟩ (fun H locs hR hS => ?_)
    refine lv_aload_n hx hb dX12_put_179 rfl (lv_at hl 0 rfl) ?_
    refine lv_iload_n hx hb dX12_put_180 rfl (lv_at hl 1 rfl) ?_
    refine lv_iconst (v := 5) hx hb dX12_put_181 rfl ?_
    refine lv_iload_n hx hb dX12_put_182 rfl (lv_at hl 3 rfl) ?_
    obtain ⟨h17, eh17, hf⟩ := x_bd hf
    refine x_cVv3 C hR hS (S_X12_sets  eh17) (x_k hR 64 rfl) (by decide) rfl mf_X12_sets tw_1790 (Nat.le_of_ble_eq_true rfl) (Nat.le_of_ble_eq_true rfl) hl.1 (Nat.le_of_ble_eq_true rfl) dX12_put_183 ⟨Nat.le_refl _, Nat.le_refl _⟩ (fun H locs hR hS => ?_)
    refine lv_aload_n hx hb dX12_put_186 rfl (lv_at hl 0 rfl) ?_
    refine lv_iload_n hx hb dX12_put_187 rfl (lv_at hl 1 rfl) ?_
    refine lv_bipush (v := 6) hx hb dX12_put_188 rfl ?_
    refine lv_iload hx hb dX12_put_190 (lv_at hl 4 rfl) ?_
    obtain ⟨h18, eh18, hf⟩ := x_bd hf
    refine x_cVv3 C hR hS (S_X12_sets  eh18) (x_k hR 64 rfl) (by decide) rfl mf_X12_sets tw_1790 (Nat.le_of_ble_eq_true rfl) (Nat.le_of_ble_eq_true rfl) hl.1 (Nat.le_of_ble_eq_true rfl) dX12_put_192 ⟨Nat.le_refl _, Nat.le_refl _⟩ (fun H locs hR hS => ?_)
    refine lv_aload_n hx hb dX12_put_195 rfl (lv_at hl 0 rfl) ?_
    refine lv_iload_n hx hb dX12_put_196 rfl (lv_at hl 1 rfl) ?_
    refine lv_bipush (v := 7) hx hb dX12_put_197 rfl ?_
    refine lv_iload hx hb dX12_put_199 (lv_at hl 5 rfl) ?_
    obtain ⟨h19, eh19, hf⟩ := x_bd hf
    refine x_cVv3 C hR hS (S_X12_sets  eh19) (x_k hR 64 rfl) (by decide) rfl mf_X12_sets tw_1790 (Nat.le_of_ble_eq_true rfl) (Nat.le_of_ble_eq_true rfl) hl.1 (Nat.le_of_ble_eq_true rfl) dX12_put_201 ⟨Nat.le_refl _, Nat.le_refl _⟩ (fun H locs hR hS => ?_)
    refine lv_aload_n hx hb dX12_put_204 rfl (lv_at hl 0 rfl) ?_
    refine lv_iload_n hx hb dX12_put_205 rfl (lv_at hl 1 rfl) ?_
    refine lv_iload hx hb dX12_put_206 (lv_at hl 5 rfl) ?_
    obtain ⟨h20, eh20, hf⟩ := x_bd hf
    refine x_cVv2 C hR hS (S_X12_touches  eh20) (x_k hR 64 rfl) (by decide) rfl mf_X12_touches tw_1829 (Nat.le_of_ble_eq_true rfl) (Nat.le_of_ble_eq_true rfl) hl.1 (Nat.le_of_ble_eq_true rfl) dX12_put_208 ⟨Nat.le_refl _, Nat.le_refl _⟩ (fun H locs hR hS => ?_)
    refine lv_iload hx hb dX12_put_211 (lv_at hl 6 rfl) ?_
    cases hf
    exact x_iret C hR hS dX12_put_213
  · have hf := x_in hc hf
    refine lv_iconst (v := 0) hx hb dX12_put_146 rfl ?_
    cases hf
    exact x_iret C hR hS dX12_put_147
set_option maxRecDepth 20000 in
theorem B_X12_put_134 {p : Program} {l : Launch} {e : Env} {s : State} {m : MethodId} {args : Array Value} {below : List Frame} {meth : Method} {c : Code} {O : XO} {K : XK} {r : Int32} {h' : XH}   (C : x_C p s m args meth c O cX12_put 8 RX12 (some .int))   (ls : Array Slot) (H : Heap) (locs : List Loc) (h : XH) (v1 : Int32) (v2 : Int32) (v3 : Int32) (v4 : Int32) (v5 : Int32) (v7 : Int32) (hl : lv_has ls 8 [(0, .ref (oX O + 64)), (1, .int v1), (2, .int v2), (3, .int v3), (4, .int v4), (5, .int v5), (7, .int v7)]) (hR : x_R O K h H) (hS : va_S (oA O) s.heap H locs) (hf : f_X12_put_134 (oX O) h v1 v2 v3 v4 v5 v7 = some (r, h')) : W p l e (x_rm 3 66) s m args below meth c H locs 0 0 (MQ below (x_Qc O K h' (some (.int r))) args s 0 0 (oA O)) (F0 m 134 ls [.ref (oX O + 64)]) := by
  have hx := C.1
  have hb := C.2.1
  rw [f_X12_put_134] at hf
  refine lv_iconst (v := 1) hx hb dX12_put_134 rfl ?_
  refine lv_goto (tgt := 139) hx hb dX12_put_135 rfl ?_
  exact B_X12_put_139  C   ls _ _ h _ _ _ _ _ _ _  (lv_sub hl [0, 1, 2, 3, 4, 5, 6] rfl) hR hS hf
set_option maxRecDepth 20000 in
theorem B_X12_put_95 {p : Program} {l : Launch} {e : Env} {s : State} {m : MethodId} {args : Array Value} {below : List Frame} {meth : Method} {c : Code} {O : XO} {K : XK} {r : Int32} {h' : XH}   (C : x_C p s m args meth c O cX12_put 8 RX12 (some .int))   (ls : Array Slot) (H : Heap) (locs : List Loc) (h : XH) (v1 : Int32) (v2 : Int32) (v3 : Int32) (v4 : Int32) (v5 : Int32) (v6 : Int32) (s0 : Int32) (hl : lv_has ls 8 [(0, .ref (oX O + 64)), (1, .int v1), (2, .int v2), (3, .int v3), (4, .int v4), (5, .int v5), (6, .int v6)]) (hR : x_R O K h H) (hS : va_S (oA O) s.heap H locs) (hf : f_X12_put_95 (oX O) h v1 v2 v3 v4 v5 v6 s0 = some (r, h')) : W p l e (x_rm 3 66) s m args below meth c H locs 0 0 (MQ below (x_Qc O K h' (some (.int r))) args s 0 0 (oA O)) (F0 m 95 ls [.int s0]) := by
  have hx := C.1
  have hb := C.2.1
  rw [f_X12_put_95] at hf
  refine lv_istore (lv' := [(7, _), (0, _), (1, _), (2, _), (3, _), (4, _), (5, _), (6, _)]) hx hb dX12_put_95 hl (Nat.le_of_ble_eq_true rfl) rfl (fun ls hl => ?_)
  refine lv_aload_n hx hb dX12_put_97 rfl (lv_at hl 1 rfl) ?_
  refine lv_iload hx hb dX12_put_98 (lv_at hl 7 rfl) ?_
  refine lv_if_ne (tgt := 134) hx hb dX12_put_100 rfl (fun hc => ?_) (fun hc => ?_)
  · have hf := x_in hc hf
    exact B_X12_put_134  C   ls _ _ h _ _ _ _ _ _  (lv_sub hl [1, 2, 3, 4, 5, 6, 0] rfl) hR hS hf
  · have hf := x_ip hc hf
    refine lv_iload_n hx hb dX12_put_103 rfl (lv_at hl 4 rfl) ?_
    refine lv_iload hx hb dX12_put_104 (lv_at hl 0 rfl) ?_
    refine lv_iadd hx hb dX12_put_106 ?_
    refine lv_aload_n hx hb dX12_put_107 rfl (lv_at hl 1 rfl) ?_
    refine lv_iload_n hx hb dX12_put_108 rfl (lv_at hl 3 rfl) ?_
    obtain ⟨v_21, ev_21, hf⟩ := x_bd hf
    refine x_cVi1 C hR hS (S_X12_doors  ev_21) (x_k hR 64 rfl) (by decide) rfl mf_X12_doors tw_1782 (Nat.le_of_ble_eq_true rfl) (Nat.le_of_ble_eq_true rfl) hl.1 (Nat.le_of_ble_eq_true rfl) dX12_put_109 ⟨Nat.le_refl _, Nat.le_refl _⟩ (fun H locs hR hS => ?_)
    refine lv_icmp_gt (tgt := 134) hx hb dX12_put_112 rfl (fun hc => ?_) (fun hc => ?_)
    · have hf := x_ip hc hf
      exact B_X12_put_134  C   ls _ _ h _ _ _ _ _ _  (lv_sub hl [1, 2, 3, 4, 5, 6, 0] rfl) hR hS hf
    · have hf := x_in hc hf
      refine lv_aload_n hx hb dX12_put_115 rfl (lv_at hl 1 rfl) ?_
      refine gf_12_1 C hR (x_k hR 64 rfl) tw_1544 dX12_put_116 ?_
      refine lv_bipush (v := 6) hx hb dX12_put_119 rfl ?_
      obtain ⟨g22, hf⟩ := x_gd hf
      refine x_iald C hR (x_k1 (x_k hR 65 rfl)) (x_k2 (x_k hR 65 rfl) g22) dX12_put_121 ?_
      refine lv_iload hx hb dX12_put_122 (lv_at hl 0 rfl) ?_
      refine lv_iload hx hb dX12_put_124 (lv_at hl 6 rfl) ?_
      refine lv_imul hx hb dX12_put_126 ?_
      refine lv_iadd hx hb dX12_put_127 ?_
      refine lv_ldcw hx hb C.2.2.2.1 (C.2.2.2.2.1 _ tw_1828) dX12_put_128 ?_
      have kM23 : ∀ (ls : Array Slot) (H : Heap) (locs : List Loc), lv_has ls 8 [(0, .ref (oX O + 64)), (1, .int v1), (2, .int v2), (3, .int v3), (4, .int v4), (5, .int v5), (7, .int s0)] → x_R O K h H → va_S (oA O) s.heap H locs → W p l e (x_rm 3 66) s m args below meth c H locs 0 0 (MQ below (x_Qc O K h' (some (.int r))) args s 0 0 (oA O)) (F0 m 139 ls [.int (if ((h.1 (oX O + 65) (6 : Int32).toNatClampNeg) + (s0 * v5)) ≤ 1000000 then 0 else 1), .ref (oX O + 64)]) := by
        intro ls H locs hl hR hS
        refine lv_iconst (v := 3) hx hb dX12_put_139 rfl ?_
        obtain ⟨q24, eq24, hf⟩ := x_bd hf
        refine x_cVi2 C hR hS (S_X12_throwsIf  eq24) (x_k hR 64 rfl) (by decide) rfl mf_X12_throwsIf tw_1741 (Nat.le_of_ble_eq_true rfl) (Nat.le_of_ble_eq_true rfl) hl.1 (Nat.le_of_ble_eq_true rfl) dX12_put_140 ⟨Nat.le_refl _, Nat.le_refl _⟩ (fun H locs hR hS => ?_)
        refine lv_if_eq (tgt := 148) hx hb dX12_put_143 rfl (fun hc => ?_) (fun hc => ?_)
        · have hf := x_ip hc hf
          refine lv_aload_n hx hb dX12_put_148 rfl (lv_at hl 0 rfl) ?_
          refine gf_12_1 C hR (x_k hR 64 rfl) tw_1544 dX12_put_149 ?_
          refine lv_bipush (v := 7) hx hb dX12_put_152 rfl ?_
          refine lv_dup2_11 hx hb dX12_put_154 rfl rfl ?_
          obtain ⟨g25, hf⟩ := x_gd hf
          refine x_iald C hR (x_k1 (x_k hR 65 rfl)) (x_k2 (x_k hR 65 rfl) g25) dX12_put_155 ?_
          refine lv_iconst (v := 1) hx hb dX12_put_156 rfl ?_
          refine lv_iadd hx hb dX12_put_157 ?_
          obtain ⟨g26, hf⟩ := x_gd hf
          obtain ⟨h27, eh27, hf⟩ := x_lt hf
          refine x_iast C hR hS (x_k1 (x_k hR 65 rfl)) (x_k2 (x_k hR 65 rfl) g26) dX12_put_158 (fun H locs hR hS => ?_)
          rw [← eh27] at hR
          refine lv_aload_n hx hb dX12_put_159 rfl (lv_at hl 0 rfl) ?_
          refine lv_iload_n hx hb dX12_put_160 rfl (lv_at hl 1 rfl) ?_
          refine lv_iconst (v := 3) hx hb dX12_put_161 rfl ?_
          refine lv_aload_n hx hb dX12_put_162 rfl (lv_at hl 0 rfl) ?_
          refine gf_12_1 C hR (x_k hR 64 rfl) tw_1544 dX12_put_163 ?_
          refine lv_bipush (v := 7) hx hb dX12_put_166 rfl ?_
          obtain ⟨g28, hf⟩ := x_gd hf
          refine x_iald C hR (x_k1 (x_k hR 65 rfl)) (x_k2 (x_k hR 65 rfl) g28) dX12_put_168 ?_
          obtain ⟨h29, eh29, hf⟩ := x_bd hf
          refine x_cVv3 C hR hS (S_X12_sets  eh29) (x_k hR 64 rfl) (by decide) rfl mf_X12_sets tw_1790 (Nat.le_of_ble_eq_true rfl) (Nat.le_of_ble_eq_true rfl) hl.1 (Nat.le_of_ble_eq_true rfl) dX12_put_169 ⟨Nat.le_refl _, Nat.le_refl _⟩ (fun H locs hR hS => ?_)
          refine lv_aload_n hx hb dX12_put_172 rfl (lv_at hl 0 rfl) ?_
          refine lv_iload_n hx hb dX12_put_173 rfl (lv_at hl 1 rfl) ?_
          refine lv_iconst (v := 4) hx hb dX12_put_174 rfl ?_
          refine lv_iload_n hx hb dX12_put_175 rfl (lv_at hl 2 rfl) ?_
          obtain ⟨h30, eh30, hf⟩ := x_bd hf
          refine x_cVv3 C hR hS (S_X12_sets  eh30) (x_k hR 64 rfl) (by decide) rfl mf_X12_sets tw_1790 (Nat.le_of_ble_eq_true rfl) (Nat.le_of_ble_eq_true rfl) hl.1 (Nat.le_of_ble_eq_true rfl) dX12_put_176 ⟨Nat.le_refl _, Nat.le_refl _⟩ (fun H locs hR hS => ?_)
          refine lv_aload_n hx hb dX12_put_179 rfl (lv_at hl 0 rfl) ?_
          refine lv_iload_n hx hb dX12_put_180 rfl (lv_at hl 1 rfl) ?_
          refine lv_iconst (v := 5) hx hb dX12_put_181 rfl ?_
          refine lv_iload_n hx hb dX12_put_182 rfl (lv_at hl 3 rfl) ?_
          obtain ⟨h31, eh31, hf⟩ := x_bd hf
          refine x_cVv3 C hR hS (S_X12_sets  eh31) (x_k hR 64 rfl) (by decide) rfl mf_X12_sets tw_1790 (Nat.le_of_ble_eq_true rfl) (Nat.le_of_ble_eq_true rfl) hl.1 (Nat.le_of_ble_eq_true rfl) dX12_put_183 ⟨Nat.le_refl _, Nat.le_refl _⟩ (fun H locs hR hS => ?_)
          refine lv_aload_n hx hb dX12_put_186 rfl (lv_at hl 0 rfl) ?_
          refine lv_iload_n hx hb dX12_put_187 rfl (lv_at hl 1 rfl) ?_
          refine lv_bipush (v := 6) hx hb dX12_put_188 rfl ?_
          refine lv_iload hx hb dX12_put_190 (lv_at hl 4 rfl) ?_
          obtain ⟨h32, eh32, hf⟩ := x_bd hf
          refine x_cVv3 C hR hS (S_X12_sets  eh32) (x_k hR 64 rfl) (by decide) rfl mf_X12_sets tw_1790 (Nat.le_of_ble_eq_true rfl) (Nat.le_of_ble_eq_true rfl) hl.1 (Nat.le_of_ble_eq_true rfl) dX12_put_192 ⟨Nat.le_refl _, Nat.le_refl _⟩ (fun H locs hR hS => ?_)
          refine lv_aload_n hx hb dX12_put_195 rfl (lv_at hl 0 rfl) ?_
          refine lv_iload_n hx hb dX12_put_196 rfl (lv_at hl 1 rfl) ?_
          refine lv_bipush (v := 7) hx hb dX12_put_197 rfl ?_
          refine lv_iload hx hb dX12_put_199 (lv_at hl 5 rfl) ?_
          obtain ⟨h33, eh33, hf⟩ := x_bd hf
          refine x_cVv3 C hR hS (S_X12_sets  eh33) (x_k hR 64 rfl) (by decide) rfl mf_X12_sets tw_1790 (Nat.le_of_ble_eq_true rfl) (Nat.le_of_ble_eq_true rfl) hl.1 (Nat.le_of_ble_eq_true rfl) dX12_put_201 ⟨Nat.le_refl _, Nat.le_refl _⟩ (fun H locs hR hS => ?_)
          refine lv_aload_n hx hb dX12_put_204 rfl (lv_at hl 0 rfl) ?_
          refine lv_iload_n hx hb dX12_put_205 rfl (lv_at hl 1 rfl) ?_
          refine lv_iload hx hb dX12_put_206 (lv_at hl 5 rfl) ?_
          obtain ⟨h34, eh34, hf⟩ := x_bd hf
          refine x_cVv2 C hR hS (S_X12_touches  eh34) (x_k hR 64 rfl) (by decide) rfl mf_X12_touches tw_1829 (Nat.le_of_ble_eq_true rfl) (Nat.le_of_ble_eq_true rfl) hl.1 (Nat.le_of_ble_eq_true rfl) dX12_put_208 ⟨Nat.le_refl _, Nat.le_refl _⟩ (fun H locs hR hS => ?_)
          refine lv_iload hx hb dX12_put_211 (lv_at hl 6 rfl) ?_
          cases hf
          exact x_iret C hR hS dX12_put_213
        · have hf := x_in hc hf
          refine lv_iconst (v := 0) hx hb dX12_put_146 rfl ?_
          cases hf
          exact x_iret C hR hS dX12_put_147
      refine lv_icmp_le (tgt := 138) hx hb dX12_put_131 rfl (fun hc => ?_) (fun hc => ?_)
      · try simp only [if_pos hc] at kM23
        refine lv_iconst (v := 0) hx hb dX12_put_138 rfl ?_
        exact kM23 ls _ _ (lv_sub hl [1, 2, 3, 4, 5, 6, 0] rfl) hR hS
      · try simp only [if_neg hc] at kM23
        refine lv_iconst (v := 1) hx hb dX12_put_134 rfl ?_
        refine lv_goto (tgt := 139) hx hb dX12_put_135 rfl ?_
        exact kM23 ls _ _ (lv_sub hl [1, 2, 3, 4, 5, 6, 0] rfl) hR hS
set_option maxRecDepth 20000 in
theorem B_X12_put_28 {p : Program} {l : Launch} {e : Env} {s : State} {m : MethodId} {args : Array Value} {below : List Frame} {meth : Method} {c : Code} {O : XO} {K : XK} {r : Int32} {h' : XH}   (C : x_C p s m args meth c O cX12_put 8 RX12 (some .int))   (ls : Array Slot) (H : Heap) (locs : List Loc) (h : XH) (v1 : Int32) (v2 : Int32) (v3 : Int32) (v4 : Int32) (v5 : Int32) (s1 : Int32) (hl : lv_has ls 8 [(0, .ref (oX O + 64)), (1, .int v1), (2, .int v2), (3, .int v3), (4, .int v4), (5, .int v5)]) (hR : x_R O K h H) (hS : va_S (oA O) s.heap H locs) (hf : f_X12_put_28 (oX O) h v1 v2 v3 v4 v5 s1 = some (r, h')) : W p l e (x_rm 3 66) s m args below meth c H locs 0 0 (MQ below (x_Qc O K h' (some (.int r))) args s 0 0 (oA O)) (F0 m 28 ls [.int s1, .ref (oX O + 64)]) := by
  have hx := C.1
  have hb := C.2.1
  rw [f_X12_put_28] at hf
  refine lv_iconst (v := 1) hx hb dX12_put_28 rfl ?_
  obtain ⟨q3, eq3, hf⟩ := x_bd hf
  refine x_cVi2 C hR hS (S_X12_throwsIf  eq3) (x_k hR 64 rfl) (by decide) rfl mf_X12_throwsIf tw_1741 (Nat.le_of_ble_eq_true rfl) (Nat.le_of_ble_eq_true rfl) hl.1 (Nat.le_of_ble_eq_true rfl) dX12_put_29 ⟨Nat.le_refl _, Nat.le_refl _⟩ (fun H locs hR hS => ?_)
  refine lv_if_ne (tgt := 48) hx hb dX12_put_32 rfl (fun hc => ?_) (fun hc => ?_)
  · have hf := x_in hc hf
    exact B_X12_put_48  C   ls _ _ q3.2  (lv_sub hl [] rfl) hR hS hf
  · have hf := x_ip hc hf
    refine lv_aload_n hx hb dX12_put_35 rfl (lv_at hl 0 rfl) ?_
    refine lv_aload_n hx hb dX12_put_36 rfl (lv_at hl 0 rfl) ?_
    refine lv_iload_n hx hb dX12_put_37 rfl (lv_at hl 1 rfl) ?_
    obtain ⟨v_4, ev_4, hf⟩ := x_bd hf
    refine x_cVi1 C hR hS (S_X12_isPut  ev_4) (x_k hR 64 rfl) (by decide) rfl mf_X12_isPut tw_1818 (Nat.le_of_ble_eq_true rfl) (Nat.le_of_ble_eq_true rfl) hl.1 (Nat.le_of_ble_eq_true rfl) dX12_put_38 ⟨Nat.le_refl _, Nat.le_refl _⟩ (fun H locs hR hS => ?_)
    refine lv_iconst (v := 2) hx hb dX12_put_41 rfl ?_
    obtain ⟨q5, eq5, hf⟩ := x_bd hf
    refine x_cVi2 C hR hS (S_X12_throwsIf  eq5) (x_k hR 64 rfl) (by decide) rfl mf_X12_throwsIf tw_1741 (Nat.le_of_ble_eq_true rfl) (Nat.le_of_ble_eq_true rfl) hl.1 (Nat.le_of_ble_eq_true rfl) dX12_put_42 ⟨Nat.le_refl _, Nat.le_refl _⟩ (fun H locs hR hS => ?_)
    refine lv_if_eq (tgt := 50) hx hb dX12_put_45 rfl (fun hc => ?_) (fun hc => ?_)
    · have hf := x_ip hc hf
      refine lv_iload hx hb dX12_put_50 (lv_at hl 4 rfl) ?_
      refine lv_iconst (v := 1) hx hb dX12_put_52 rfl ?_
      refine lv_iconst (v := 3) hx hb dX12_put_53 rfl ?_
      refine x_cSi3 C hR hS (S_X12_in  rfl) mf_X12_in tw_1756 (Nat.le_of_ble_eq_true rfl) (Nat.le_of_ble_eq_true rfl) hl.1 (Nat.le_of_ble_eq_true rfl) dX12_put_54 ⟨Nat.le_refl _, Nat.le_refl _⟩ (fun H locs hR hS => ?_)
      have kM6 : ∀ (ls : Array Slot) (H : Heap) (locs : List Loc), lv_has ls 8 [(0, .ref (oX O + 64)), (1, .int v1), (2, .int v2), (3, .int v3), (4, .int v4), (5, .int v5)] → x_R O K q5.2 H → va_S (oA O) s.heap H locs → W p l e (x_rm 3 66) s m args below meth c H locs 0 0 (MQ below (x_Qc O K h' (some (.int r))) args s 0 0 (oA O)) (F0 m 73 ls [.int (if (f_X12_in q5.2 v4 1 3) = 0 then 1 else (if (f_X12_noSeconds q5.2 v5) = 0 then 0 else 1))]) := by
        intro ls H locs hl hR hS
        obtain ⟨t7, et7, hf⟩ := x_lt hf
        refine x_nmi et7 ?_
        refine lv_istore (lv' := [(6, _), (0, _), (1, _), (2, _), (3, _), (4, _), (5, _)]) hx hb dX12_put_73 hl (Nat.le_of_ble_eq_true rfl) rfl (fun ls hl => ?_)
        refine lv_iload hx hb dX12_put_75 (lv_at hl 0 rfl) ?_
        refine lv_if_eq (tgt := 84) hx hb dX12_put_77 rfl (fun hc => ?_) (fun hc => ?_)
        · have hf := x_ip hc hf
          refine lv_aload_n hx hb dX12_put_84 rfl (lv_at hl 1 rfl) ?_
          refine lv_iload_n hx hb dX12_put_85 rfl (lv_at hl 2 rfl) ?_
          refine lv_iconst (v := 2) hx hb dX12_put_86 rfl ?_
          obtain ⟨v_8, ev_8, hf⟩ := x_bd hf
          refine x_cVi2 C hR hS (S_X12_of  ev_8) (x_k hR 64 rfl) (by decide) rfl mf_X12_of tw_1806 (Nat.le_of_ble_eq_true rfl) (Nat.le_of_ble_eq_true rfl) hl.1 (Nat.le_of_ble_eq_true rfl) dX12_put_87 ⟨Nat.le_refl _, Nat.le_refl _⟩ (fun H locs hR hS => ?_)
          refine lv_iload hx hb dX12_put_90 (lv_at hl 5 rfl) ?_
          obtain ⟨v_9, ev_9, hf⟩ := x_bd hf
          refine x_cSi2 C hR hS (S_X12_placesFor  ev_9) mf_X12_placesFor tw_1825 (Nat.le_of_ble_eq_true rfl) (Nat.le_of_ble_eq_true rfl) hl.1 (Nat.le_of_ble_eq_true rfl) dX12_put_92 ⟨Nat.le_refl _, Nat.le_refl _⟩ (fun H locs hR hS => ?_)
          exact B_X12_put_95  C   ls _ _ q5.2 _ _ _ _ _ _ _  (lv_sub hl [1, 2, 3, 4, 5, 6, 0] rfl) hR hS hf
        · have hf := x_in hc hf
          refine lv_iconst (v := 0) hx hb dX12_put_80 rfl ?_
          refine lv_goto (tgt := 95) hx hb dX12_put_81 rfl ?_
          exact B_X12_put_95  C   ls _ _ q5.2 _ _ _ _ _ _ _  (lv_sub hl [1, 2, 3, 4, 5, 6, 0] rfl) hR hS hf
      refine lv_if_eq (tgt := 68) hx hb dX12_put_57 rfl (fun hc => ?_) (fun hc => ?_)
      · try simp only [if_pos hc] at kM6
        refine lv_iconst (v := 1) hx hb dX12_put_68 rfl ?_
        refine lv_goto (tgt := 73) hx hb dX12_put_69 rfl ?_
        exact kM6 ls _ _ (lv_sub hl [0, 1, 2, 3, 4, 5] rfl) hR hS
      · try simp only [if_neg hc] at kM6
        refine lv_iload hx hb dX12_put_60 (lv_at hl 5 rfl) ?_
        refine x_cSi1 C hR hS (S_X12_noSeconds  rfl) mf_X12_noSeconds tw_1822 (Nat.le_of_ble_eq_true rfl) (Nat.le_of_ble_eq_true rfl) hl.1 (Nat.le_of_ble_eq_true rfl) dX12_put_62 ⟨Nat.le_refl _, Nat.le_refl _⟩ (fun H locs hR hS => ?_)
        refine lv_if_eq (tgt := 72) hx hb dX12_put_65 rfl (fun hc => ?_) (fun hc => ?_)
        · try simp only [if_pos hc] at kM6
          refine lv_iconst (v := 0) hx hb dX12_put_72 rfl ?_
          exact kM6 ls _ _ (lv_sub hl [0, 1, 2, 3, 4, 5] rfl) hR hS
        · try simp only [if_neg hc] at kM6
          refine lv_iconst (v := 1) hx hb dX12_put_68 rfl ?_
          refine lv_goto (tgt := 73) hx hb dX12_put_69 rfl ?_
          exact kM6 ls _ _ (lv_sub hl [0, 1, 2, 3, 4, 5] rfl) hR hS
    · have hf := x_in hc hf
      exact B_X12_put_48  C   ls _ _ q5.2  (lv_sub hl [] rfl) hR hS hf
set_option maxRecDepth 20000 in
theorem B_X12_put_23 {p : Program} {l : Launch} {e : Env} {s : State} {m : MethodId} {args : Array Value} {below : List Frame} {meth : Method} {c : Code} {O : XO} {K : XK} {r : Int32} {h' : XH}   (C : x_C p s m args meth c O cX12_put 8 RX12 (some .int))   (ls : Array Slot) (H : Heap) (locs : List Loc) (h : XH) (v1 : Int32) (v2 : Int32) (v3 : Int32) (v4 : Int32) (v5 : Int32) (hl : lv_has ls 8 [(0, .ref (oX O + 64)), (1, .int v1), (2, .int v2), (3, .int v3), (4, .int v4), (5, .int v5)]) (hR : x_R O K h H) (hS : va_S (oA O) s.heap H locs) (hf : f_X12_put_23 (oX O) h v1 v2 v3 v4 v5 = some (r, h')) : W p l e (x_rm 3 66) s m args below meth c H locs 0 0 (MQ below (x_Qc O K h' (some (.int r))) args s 0 0 (oA O)) (F0 m 23 ls [.ref (oX O + 64)]) := by
  have hx := C.1
  have hb := C.2.1
  rw [f_X12_put_23] at hf
  refine lv_iconst (v := 1) hx hb dX12_put_23 rfl ?_
  refine lv_goto (tgt := 28) hx hb dX12_put_24 rfl ?_
  exact B_X12_put_28  C   ls _ _ h _ _ _ _ _ _  (lv_sub hl [0, 1, 2, 3, 4, 5] rfl) hR hS hf
set_option maxRecDepth 20000 in
theorem S_X12_put {l : Launch} {O : XO} {K : XK} {h : XH} {v1 : Int32} {v2 : Int32} {v3 : Int32} {v4 : Int32} {v5 : Int32}  {r : Int32} {h' : XH}  (hf : f_X12_put (oX O) h v1 v2 v3 v4 v5 = some (r, h')) : x_M l O K yX12_put cX12_put 8 (some .int) 3 66 h [.ref (oX O + 64), .int v1, .int v2, .int v3, .int v4, .int v5] (some (.int r)) h' := by
  refine x_enter (by decide) (Nat.le_of_ble_eq_true rfl) (fun p e s m args below meth c C hR ls hl => ?_)
  have hS : va_S (oA O) s.heap s.heap [] := va_S.rf
  have hx := C.1
  have hb := C.2.1
  have hl : lv_has ls 8 [(0, .ref (oX O + 64)), (1, .int v1), (2, .int v2), (3, .int v3), (4, .int v4), (5, .int v5)] := hl
  rw [f_X12_put] at hf
  refine lv_aload_n hx hb dX12_put_0 rfl (lv_at hl 0 rfl) ?_
  refine lv_iconst (v := 0) hx hb dX12_put_1 rfl ?_
  obtain ⟨h1, eh1, hf⟩ := x_lt hf
  refine pf_12_0 C hR hS (x_k hR 64 rfl) tw_1543 dX12_put_2 (fun H locs hR hS => ?_)
  rw [← eh1] at hR
  refine lv_aload_n hx hb dX12_put_5 rfl (lv_at hl 0 rfl) ?_
  refine lv_aload_n hx hb dX12_put_6 rfl (lv_at hl 0 rfl) ?_
  refine lv_iload_n hx hb dX12_put_7 rfl (lv_at hl 1 rfl) ?_
  obtain ⟨v_2, ev_2, hf⟩ := x_bd hf
  refine x_cVi1 C hR hS (S_X12_noPack  ev_2) (x_k hR 64 rfl) (by decide) rfl mf_X12_noPack tw_1802 (Nat.le_of_ble_eq_true rfl) (Nat.le_of_ble_eq_true rfl) hl.1 (Nat.le_of_ble_eq_true rfl) dX12_put_8 ⟨Nat.le_refl _, Nat.le_refl _⟩ (fun H locs hR hS => ?_)
  refine lv_if_ne (tgt := 23) hx hb dX12_put_11 rfl (fun hc => ?_) (fun hc => ?_)
  · have hf := x_in hc hf
    exact B_X12_put_23  C   ls _ _ h1 _ _ _ _ _  (lv_sub hl [0, 1, 2, 3, 4, 5] rfl) hR hS hf
  · have hf := x_ip hc hf
    refine lv_aload_n hx hb dX12_put_14 rfl (lv_at hl 0 rfl) ?_
    refine lv_iload_n hx hb dX12_put_15 rfl (lv_at hl 2 rfl) ?_
    refine lv_iload_n hx hb dX12_put_16 rfl (lv_at hl 3 rfl) ?_
    obtain ⟨v_35, ev_35, hf⟩ := x_bd hf
    refine x_cVi2 C hR hS (S_X12_noDoor  ev_35) (x_k hR 64 rfl) (by decide) rfl mf_X12_noDoor tw_1774 (Nat.le_of_ble_eq_true rfl) (Nat.le_of_ble_eq_true rfl) hl.1 (Nat.le_of_ble_eq_true rfl) dX12_put_17 ⟨Nat.le_refl _, Nat.le_refl _⟩ (fun H locs hR hS => ?_)
    have kM36 : ∀ (ls : Array Slot) (H : Heap) (locs : List Loc), lv_has ls 8 [(0, .ref (oX O + 64)), (1, .int v1), (2, .int v2), (3, .int v3), (4, .int v4), (5, .int v5)] → x_R O K h1 H → va_S (oA O) s.heap H locs → W p l e (x_rm 3 66) s m args below meth c H locs 0 0 (MQ below (x_Qc O K h' (some (.int r))) args s 0 0 (oA O)) (F0 m 28 ls [.int (if v_35 = 0 then 0 else 1), .ref (oX O + 64)]) := by
      intro ls H locs hl hR hS
      refine lv_iconst (v := 1) hx hb dX12_put_28 rfl ?_
      obtain ⟨q37, eq37, hf⟩ := x_bd hf
      refine x_cVi2 C hR hS (S_X12_throwsIf  eq37) (x_k hR 64 rfl) (by decide) rfl mf_X12_throwsIf tw_1741 (Nat.le_of_ble_eq_true rfl) (Nat.le_of_ble_eq_true rfl) hl.1 (Nat.le_of_ble_eq_true rfl) dX12_put_29 ⟨Nat.le_refl _, Nat.le_refl _⟩ (fun H locs hR hS => ?_)
      refine lv_if_ne (tgt := 48) hx hb dX12_put_32 rfl (fun hc => ?_) (fun hc => ?_)
      · have hf := x_in hc hf
        exact B_X12_put_48  C   ls _ _ q37.2  (lv_sub hl [] rfl) hR hS hf
      · have hf := x_ip hc hf
        refine lv_aload_n hx hb dX12_put_35 rfl (lv_at hl 0 rfl) ?_
        refine lv_aload_n hx hb dX12_put_36 rfl (lv_at hl 0 rfl) ?_
        refine lv_iload_n hx hb dX12_put_37 rfl (lv_at hl 1 rfl) ?_
        obtain ⟨v_38, ev_38, hf⟩ := x_bd hf
        refine x_cVi1 C hR hS (S_X12_isPut  ev_38) (x_k hR 64 rfl) (by decide) rfl mf_X12_isPut tw_1818 (Nat.le_of_ble_eq_true rfl) (Nat.le_of_ble_eq_true rfl) hl.1 (Nat.le_of_ble_eq_true rfl) dX12_put_38 ⟨Nat.le_refl _, Nat.le_refl _⟩ (fun H locs hR hS => ?_)
        refine lv_iconst (v := 2) hx hb dX12_put_41 rfl ?_
        obtain ⟨q39, eq39, hf⟩ := x_bd hf
        refine x_cVi2 C hR hS (S_X12_throwsIf  eq39) (x_k hR 64 rfl) (by decide) rfl mf_X12_throwsIf tw_1741 (Nat.le_of_ble_eq_true rfl) (Nat.le_of_ble_eq_true rfl) hl.1 (Nat.le_of_ble_eq_true rfl) dX12_put_42 ⟨Nat.le_refl _, Nat.le_refl _⟩ (fun H locs hR hS => ?_)
        refine lv_if_eq (tgt := 50) hx hb dX12_put_45 rfl (fun hc => ?_) (fun hc => ?_)
        · have hf := x_ip hc hf
          refine lv_iload hx hb dX12_put_50 (lv_at hl 4 rfl) ?_
          refine lv_iconst (v := 1) hx hb dX12_put_52 rfl ?_
          refine lv_iconst (v := 3) hx hb dX12_put_53 rfl ?_
          refine x_cSi3 C hR hS (S_X12_in  rfl) mf_X12_in tw_1756 (Nat.le_of_ble_eq_true rfl) (Nat.le_of_ble_eq_true rfl) hl.1 (Nat.le_of_ble_eq_true rfl) dX12_put_54 ⟨Nat.le_refl _, Nat.le_refl _⟩ (fun H locs hR hS => ?_)
          have kM40 : ∀ (ls : Array Slot) (H : Heap) (locs : List Loc), lv_has ls 8 [(0, .ref (oX O + 64)), (1, .int v1), (2, .int v2), (3, .int v3), (4, .int v4), (5, .int v5)] → x_R O K q39.2 H → va_S (oA O) s.heap H locs → W p l e (x_rm 3 66) s m args below meth c H locs 0 0 (MQ below (x_Qc O K h' (some (.int r))) args s 0 0 (oA O)) (F0 m 73 ls [.int (if (f_X12_in q39.2 v4 1 3) = 0 then 1 else (if (f_X12_noSeconds q39.2 v5) = 0 then 0 else 1))]) := by
            intro ls H locs hl hR hS
            obtain ⟨t41, et41, hf⟩ := x_lt hf
            refine x_nmi et41 ?_
            refine lv_istore (lv' := [(6, _), (0, _), (1, _), (2, _), (3, _), (4, _), (5, _)]) hx hb dX12_put_73 hl (Nat.le_of_ble_eq_true rfl) rfl (fun ls hl => ?_)
            refine lv_iload hx hb dX12_put_75 (lv_at hl 0 rfl) ?_
            refine lv_if_eq (tgt := 84) hx hb dX12_put_77 rfl (fun hc => ?_) (fun hc => ?_)
            · have hf := x_ip hc hf
              refine lv_aload_n hx hb dX12_put_84 rfl (lv_at hl 1 rfl) ?_
              refine lv_iload_n hx hb dX12_put_85 rfl (lv_at hl 2 rfl) ?_
              refine lv_iconst (v := 2) hx hb dX12_put_86 rfl ?_
              obtain ⟨v_42, ev_42, hf⟩ := x_bd hf
              refine x_cVi2 C hR hS (S_X12_of  ev_42) (x_k hR 64 rfl) (by decide) rfl mf_X12_of tw_1806 (Nat.le_of_ble_eq_true rfl) (Nat.le_of_ble_eq_true rfl) hl.1 (Nat.le_of_ble_eq_true rfl) dX12_put_87 ⟨Nat.le_refl _, Nat.le_refl _⟩ (fun H locs hR hS => ?_)
              refine lv_iload hx hb dX12_put_90 (lv_at hl 5 rfl) ?_
              obtain ⟨v_43, ev_43, hf⟩ := x_bd hf
              refine x_cSi2 C hR hS (S_X12_placesFor  ev_43) mf_X12_placesFor tw_1825 (Nat.le_of_ble_eq_true rfl) (Nat.le_of_ble_eq_true rfl) hl.1 (Nat.le_of_ble_eq_true rfl) dX12_put_92 ⟨Nat.le_refl _, Nat.le_refl _⟩ (fun H locs hR hS => ?_)
              exact B_X12_put_95  C   ls _ _ q39.2 _ _ _ _ _ _ _  (lv_sub hl [1, 2, 3, 4, 5, 6, 0] rfl) hR hS hf
            · have hf := x_in hc hf
              refine lv_iconst (v := 0) hx hb dX12_put_80 rfl ?_
              refine lv_goto (tgt := 95) hx hb dX12_put_81 rfl ?_
              exact B_X12_put_95  C   ls _ _ q39.2 _ _ _ _ _ _ _  (lv_sub hl [1, 2, 3, 4, 5, 6, 0] rfl) hR hS hf
          refine lv_if_eq (tgt := 68) hx hb dX12_put_57 rfl (fun hc => ?_) (fun hc => ?_)
          · try simp only [if_pos hc] at kM40
            refine lv_iconst (v := 1) hx hb dX12_put_68 rfl ?_
            refine lv_goto (tgt := 73) hx hb dX12_put_69 rfl ?_
            exact kM40 ls _ _ (lv_sub hl [0, 1, 2, 3, 4, 5] rfl) hR hS
          · try simp only [if_neg hc] at kM40
            refine lv_iload hx hb dX12_put_60 (lv_at hl 5 rfl) ?_
            refine x_cSi1 C hR hS (S_X12_noSeconds  rfl) mf_X12_noSeconds tw_1822 (Nat.le_of_ble_eq_true rfl) (Nat.le_of_ble_eq_true rfl) hl.1 (Nat.le_of_ble_eq_true rfl) dX12_put_62 ⟨Nat.le_refl _, Nat.le_refl _⟩ (fun H locs hR hS => ?_)
            refine lv_if_eq (tgt := 72) hx hb dX12_put_65 rfl (fun hc => ?_) (fun hc => ?_)
            · try simp only [if_pos hc] at kM40
              refine lv_iconst (v := 0) hx hb dX12_put_72 rfl ?_
              exact kM40 ls _ _ (lv_sub hl [0, 1, 2, 3, 4, 5] rfl) hR hS
            · try simp only [if_neg hc] at kM40
              refine lv_iconst (v := 1) hx hb dX12_put_68 rfl ?_
              refine lv_goto (tgt := 73) hx hb dX12_put_69 rfl ?_
              exact kM40 ls _ _ (lv_sub hl [0, 1, 2, 3, 4, 5] rfl) hR hS
        · have hf := x_in hc hf
          exact B_X12_put_48  C   ls _ _ q39.2  (lv_sub hl [] rfl) hR hS hf
    refine lv_if_eq (tgt := 27) hx hb dX12_put_20 rfl (fun hc => ?_) (fun hc => ?_)
    · try simp only [if_pos hc] at kM36
      refine lv_iconst (v := 0) hx hb dX12_put_27 rfl ?_
      exact kM36 ls _ _ (lv_sub hl [0, 1, 2, 3, 4, 5] rfl) hR hS
    · try simp only [if_neg hc] at kM36
      refine lv_iconst (v := 1) hx hb dX12_put_23 rfl ?_
      refine lv_goto (tgt := 28) hx hb dX12_put_24 rfl ?_
      exact kM36 ls _ _ (lv_sub hl [0, 1, 2, 3, 4, 5] rfl) hR hS
def f_X12_later_30 (x : Nat) (h : XH) (v1 : Int32) (s1 : Int32) : Option (Int32 × XH) := Option.bind (f_X12_throwsIf x h s1 1) (fun q2 => if q2.1 = 0 then if x_b 6 6927 = true then if x_b 6 6927 = true then x_let (x_i q2.2 (x + 65) (6 : Int32).toNatClampNeg ((q2.2.1 (x + 65) (6 : Int32).toNatClampNeg) + v1)) (fun h5 => if x_b 6 6927 = true then some ((h5.1 (x + 65) (6 : Int32).toNatClampNeg), h5) else none) else none else none else some (0, q2.2))
def f_X12_later_25 (x : Nat) (h : XH) (v1 : Int32) : Option (Int32 × XH) := f_X12_later_30 x h v1 1
def f_X12_later (x : Nat) (h : XH) (v1 : Int32) : Option (Int32 × XH) := x_let (x_i h (x + 64) 0 0) (fun h1 => if v1 < 0 then f_X12_later_25 x h1 v1 else if x_b 6 6927 = true then Option.bind (f_X12_throwsIf x h1 (if v1 ≤ (1000000 - (h1.1 (x + 65) (6 : Int32).toNatClampNeg)) then 0 else 1) 1) (fun q9 => if q9.1 = 0 then if x_b 6 6927 = true then if x_b 6 6927 = true then x_let (x_i q9.2 (x + 65) (6 : Int32).toNatClampNeg ((q9.2.1 (x + 65) (6 : Int32).toNatClampNeg) + v1)) (fun h12 => if x_b 6 6927 = true then some ((h12.1 (x + 65) (6 : Int32).toNatClampNeg), h12) else none) else none else none else some (0, q9.2)) else none)
set_option maxRecDepth 20000 in
theorem B_X12_later_30 {p : Program} {l : Launch} {e : Env} {s : State} {m : MethodId} {args : Array Value} {below : List Frame} {meth : Method} {c : Code} {O : XO} {K : XK} {r : Int32} {h' : XH}   (C : x_C p s m args meth c O cX12_later 2 RX12 (some .int))   (ls : Array Slot) (H : Heap) (locs : List Loc) (h : XH) (v1 : Int32) (s1 : Int32) (hl : lv_has ls 2 [(0, .ref (oX O + 64)), (1, .int v1)]) (hR : x_R O K h H) (hS : va_S (oA O) s.heap H locs) (hf : f_X12_later_30 (oX O) h v1 s1 = some (r, h')) : W p l e (x_rm 1 22) s m args below meth c H locs 0 0 (MQ below (x_Qc O K h' (some (.int r))) args s 0 0 (oA O)) (F0 m 30 ls [.int s1, .ref (oX O + 64)]) := by
  have hx := C.1
  have hb := C.2.1
  rw [f_X12_later_30] at hf
  refine lv_iconst (v := 1) hx hb dX12_later_30 rfl ?_
  obtain ⟨q2, eq2, hf⟩ := x_bd hf
  refine x_cVi2 C hR hS (S_X12_throwsIf  eq2) (x_k hR 64 rfl) (by decide) rfl mf_X12_throwsIf tw_1741 (Nat.le_of_ble_eq_true rfl) (Nat.le_of_ble_eq_true rfl) hl.1 (Nat.le_of_ble_eq_true rfl) dX12_later_31 ⟨Nat.le_refl _, Nat.le_refl _⟩ (fun H locs hR hS => ?_)
  refine lv_if_eq (tgt := 39) hx hb dX12_later_34 rfl (fun hc => ?_) (fun hc => ?_)
  · have hf := x_ip hc hf
    refine lv_aload_n hx hb dX12_later_39 rfl (lv_at hl 0 rfl) ?_
    refine gf_12_1 C hR (x_k hR 64 rfl) tw_1544 dX12_later_40 ?_
    refine lv_bipush (v := 6) hx hb dX12_later_43 rfl ?_
    refine lv_dup2_11 hx hb dX12_later_45 rfl rfl ?_
    obtain ⟨g3, hf⟩ := x_gd hf
    refine x_iald C hR (x_k1 (x_k hR 65 rfl)) (x_k2 (x_k hR 65 rfl) g3) dX12_later_46 ?_
    refine lv_iload_n hx hb dX12_later_47 rfl (lv_at hl 1 rfl) ?_
    refine lv_iadd hx hb dX12_later_48 ?_
    obtain ⟨g4, hf⟩ := x_gd hf
    obtain ⟨h5, eh5, hf⟩ := x_lt hf
    refine x_iast C hR hS (x_k1 (x_k hR 65 rfl)) (x_k2 (x_k hR 65 rfl) g4) dX12_later_49 (fun H locs hR hS => ?_)
    rw [← eh5] at hR
    refine lv_aload_n hx hb dX12_later_50 rfl (lv_at hl 0 rfl) ?_
    refine gf_12_1 C hR (x_k hR 64 rfl) tw_1544 dX12_later_51 ?_
    refine lv_bipush (v := 6) hx hb dX12_later_54 rfl ?_
    obtain ⟨g6, hf⟩ := x_gd hf
    refine x_iald C hR (x_k1 (x_k hR 65 rfl)) (x_k2 (x_k hR 65 rfl) g6) dX12_later_56 ?_
    cases hf
    exact x_iret C hR hS dX12_later_57
  · have hf := x_in hc hf
    refine lv_iconst (v := 0) hx hb dX12_later_37 rfl ?_
    cases hf
    exact x_iret C hR hS dX12_later_38
set_option maxRecDepth 20000 in
theorem B_X12_later_25 {p : Program} {l : Launch} {e : Env} {s : State} {m : MethodId} {args : Array Value} {below : List Frame} {meth : Method} {c : Code} {O : XO} {K : XK} {r : Int32} {h' : XH}   (C : x_C p s m args meth c O cX12_later 2 RX12 (some .int))   (ls : Array Slot) (H : Heap) (locs : List Loc) (h : XH) (v1 : Int32) (hl : lv_has ls 2 [(0, .ref (oX O + 64)), (1, .int v1)]) (hR : x_R O K h H) (hS : va_S (oA O) s.heap H locs) (hf : f_X12_later_25 (oX O) h v1 = some (r, h')) : W p l e (x_rm 1 22) s m args below meth c H locs 0 0 (MQ below (x_Qc O K h' (some (.int r))) args s 0 0 (oA O)) (F0 m 25 ls [.ref (oX O + 64)]) := by
  have hx := C.1
  have hb := C.2.1
  rw [f_X12_later_25] at hf
  refine lv_iconst (v := 1) hx hb dX12_later_25 rfl ?_
  refine lv_goto (tgt := 30) hx hb dX12_later_26 rfl ?_
  exact B_X12_later_30  C   ls _ _ h _ _  (lv_sub hl [0, 1] rfl) hR hS hf
set_option maxRecDepth 20000 in
theorem S_X12_later {l : Launch} {O : XO} {K : XK} {h : XH} {v1 : Int32}  {r : Int32} {h' : XH}  (hf : f_X12_later (oX O) h v1 = some (r, h')) : x_M l O K yX12_later cX12_later 2 (some .int) 1 22 h [.ref (oX O + 64), .int v1] (some (.int r)) h' := by
  refine x_enter (by decide) (Nat.le_of_ble_eq_true rfl) (fun p e s m args below meth c C hR ls hl => ?_)
  have hS : va_S (oA O) s.heap s.heap [] := va_S.rf
  have hx := C.1
  have hb := C.2.1
  have hl : lv_has ls 2 [(0, .ref (oX O + 64)), (1, .int v1)] := hl
  rw [f_X12_later] at hf
  refine lv_aload_n hx hb dX12_later_0 rfl (lv_at hl 0 rfl) ?_
  refine lv_iconst (v := 0) hx hb dX12_later_1 rfl ?_
  obtain ⟨h1, eh1, hf⟩ := x_lt hf
  refine pf_12_0 C hR hS (x_k hR 64 rfl) tw_1543 dX12_later_2 (fun H locs hR hS => ?_)
  rw [← eh1] at hR
  refine lv_aload_n hx hb dX12_later_5 rfl (lv_at hl 0 rfl) ?_
  refine lv_iload_n hx hb dX12_later_6 rfl (lv_at hl 1 rfl) ?_
  refine lv_if_lt (tgt := 25) hx hb dX12_later_7 rfl (fun hc => ?_) (fun hc => ?_)
  · have hf := x_ip hc hf
    exact B_X12_later_25  C   ls _ _ h1 _  (lv_sub hl [0, 1] rfl) hR hS hf
  · have hf := x_in hc hf
    refine lv_iload_n hx hb dX12_later_10 rfl (lv_at hl 1 rfl) ?_
    refine lv_ldcw hx hb C.2.2.2.1 (C.2.2.2.2.1 _ tw_1828) dX12_later_11 ?_
    refine lv_aload_n hx hb dX12_later_14 rfl (lv_at hl 0 rfl) ?_
    refine gf_12_1 C hR (x_k hR 64 rfl) tw_1544 dX12_later_15 ?_
    refine lv_bipush (v := 6) hx hb dX12_later_18 rfl ?_
    obtain ⟨g7, hf⟩ := x_gd hf
    refine x_iald C hR (x_k1 (x_k hR 65 rfl)) (x_k2 (x_k hR 65 rfl) g7) dX12_later_20 ?_
    refine lv_isub hx hb dX12_later_21 ?_
    have kM8 : ∀ (ls : Array Slot) (H : Heap) (locs : List Loc), lv_has ls 2 [(0, .ref (oX O + 64)), (1, .int v1)] → x_R O K h1 H → va_S (oA O) s.heap H locs → W p l e (x_rm 1 22) s m args below meth c H locs 0 0 (MQ below (x_Qc O K h' (some (.int r))) args s 0 0 (oA O)) (F0 m 30 ls [.int (if v1 ≤ (1000000 - (h1.1 (oX O + 65) (6 : Int32).toNatClampNeg)) then 0 else 1), .ref (oX O + 64)]) := by
      intro ls H locs hl hR hS
      refine lv_iconst (v := 1) hx hb dX12_later_30 rfl ?_
      obtain ⟨q9, eq9, hf⟩ := x_bd hf
      refine x_cVi2 C hR hS (S_X12_throwsIf  eq9) (x_k hR 64 rfl) (by decide) rfl mf_X12_throwsIf tw_1741 (Nat.le_of_ble_eq_true rfl) (Nat.le_of_ble_eq_true rfl) hl.1 (Nat.le_of_ble_eq_true rfl) dX12_later_31 ⟨Nat.le_refl _, Nat.le_refl _⟩ (fun H locs hR hS => ?_)
      refine lv_if_eq (tgt := 39) hx hb dX12_later_34 rfl (fun hc => ?_) (fun hc => ?_)
      · have hf := x_ip hc hf
        refine lv_aload_n hx hb dX12_later_39 rfl (lv_at hl 0 rfl) ?_
        refine gf_12_1 C hR (x_k hR 64 rfl) tw_1544 dX12_later_40 ?_
        refine lv_bipush (v := 6) hx hb dX12_later_43 rfl ?_
        refine lv_dup2_11 hx hb dX12_later_45 rfl rfl ?_
        obtain ⟨g10, hf⟩ := x_gd hf
        refine x_iald C hR (x_k1 (x_k hR 65 rfl)) (x_k2 (x_k hR 65 rfl) g10) dX12_later_46 ?_
        refine lv_iload_n hx hb dX12_later_47 rfl (lv_at hl 1 rfl) ?_
        refine lv_iadd hx hb dX12_later_48 ?_
        obtain ⟨g11, hf⟩ := x_gd hf
        obtain ⟨h12, eh12, hf⟩ := x_lt hf
        refine x_iast C hR hS (x_k1 (x_k hR 65 rfl)) (x_k2 (x_k hR 65 rfl) g11) dX12_later_49 (fun H locs hR hS => ?_)
        rw [← eh12] at hR
        refine lv_aload_n hx hb dX12_later_50 rfl (lv_at hl 0 rfl) ?_
        refine gf_12_1 C hR (x_k hR 64 rfl) tw_1544 dX12_later_51 ?_
        refine lv_bipush (v := 6) hx hb dX12_later_54 rfl ?_
        obtain ⟨g13, hf⟩ := x_gd hf
        refine x_iald C hR (x_k1 (x_k hR 65 rfl)) (x_k2 (x_k hR 65 rfl) g13) dX12_later_56 ?_
        cases hf
        exact x_iret C hR hS dX12_later_57
      · have hf := x_in hc hf
        refine lv_iconst (v := 0) hx hb dX12_later_37 rfl ?_
        cases hf
        exact x_iret C hR hS dX12_later_38
    refine lv_icmp_le (tgt := 29) hx hb dX12_later_22 rfl (fun hc => ?_) (fun hc => ?_)
    · try simp only [if_pos hc] at kM8
      refine lv_iconst (v := 0) hx hb dX12_later_29 rfl ?_
      exact kM8 ls _ _ (lv_sub hl [0, 1] rfl) hR hS
    · try simp only [if_neg hc] at kM8
      refine lv_iconst (v := 1) hx hb dX12_later_25 rfl ?_
      refine lv_goto (tgt := 30) hx hb dX12_later_26 rfl ?_
      exact kM8 ls _ _ (lv_sub hl [0, 1] rfl) hR hS
def f_X12_go_80 (x : Nat) (h : XH) : Option (Int32 × XH) := some (0, h)
def f_X12_go_73 (x : Nat) (h : XH) (v1 : Int32) (v2 : Int32) (s1 : Int32) : Option (Int32 × XH) := Option.bind (f_X12_throwsIf x h s1 3) (fun q7 => if q7.1 = 0 then Option.bind (f_X12_touches x q7.2 v1 v2) (fun h8 => Option.bind (f_X12_of x h8 v1 8) (fun v_9 => Option.bind (f_X12_sets x h8 v1 8 (v_9 + 1)) (fun h10 => Option.bind (f_X12_of x h10 v1 8) (fun v_11 => some (v_11, h10))))) else f_X12_go_80 x q7.2)
def f_X12_go_68 (x : Nat) (h : XH) (v1 : Int32) (v2 : Int32) : Option (Int32 × XH) := f_X12_go_73 x h v1 v2 1
def f_X12_go (x : Nat) (h : XH) (v1 : Int32) (v2 : Int32) : Option (Int32 × XH) := x_let (x_i h (x + 64) 0 0) (fun h1 => Option.bind (f_X12_noPack x h1 v1) (fun v_2 => Option.bind (f_X12_throwsIf x h1 v_2 1) (fun q3 => if q3.1 = 0 then Option.bind (f_X12_isPut x q3.2 v1) (fun v_4 => Option.bind (f_X12_throwsIf x q3.2 (if v_4 = 0 then 1 else 0) 2) (fun q6 => if q6.1 = 0 then if (f_X12_noSeconds q6.2 v2) = 0 then if x_b 6 6927 = true then Option.bind (f_X12_places x q6.2 v1) (fun v_13 => Option.bind (f_X12_throwsIf x q6.2 (if ((q6.2.1 (x + 65) (6 : Int32).toNatClampNeg) + (v_13 * v2)) ≤ 1000000 then 0 else 1) 3) (fun q15 => if q15.1 = 0 then Option.bind (f_X12_touches x q15.2 v1 v2) (fun h16 => Option.bind (f_X12_of x h16 v1 8) (fun v_17 => Option.bind (f_X12_sets x h16 v1 8 (v_17 + 1)) (fun h18 => Option.bind (f_X12_of x h18 v1 8) (fun v_19 => some (v_19, h18))))) else f_X12_go_80 x q15.2)) else none else f_X12_go_68 x q6.2 v1 v2 else f_X12_go_80 x q6.2)) else f_X12_go_80 x q3.2)))
set_option maxRecDepth 20000 in
theorem B_X12_go_80 {p : Program} {l : Launch} {e : Env} {s : State} {m : MethodId} {args : Array Value} {below : List Frame} {meth : Method} {c : Code} {O : XO} {K : XK} {r : Int32} {h' : XH}   (C : x_C p s m args meth c O cX12_go 3 RX12 (some .int))   (ls : Array Slot) (H : Heap) (locs : List Loc) (h : XH) (hl : lv_has ls 3 []) (hR : x_R O K h H) (hS : va_S (oA O) s.heap H locs) (hf : f_X12_go_80 (oX O) h = some (r, h')) : W p l e (x_rm 3 66) s m args below meth c H locs 0 0 (MQ below (x_Qc O K h' (some (.int r))) args s 0 0 (oA O)) (F0 m 80 ls []) := by
  have hx := C.1
  have hb := C.2.1
  rw [f_X12_go_80] at hf
  refine lv_iconst (v := 0) hx hb dX12_go_80 rfl ?_
  cases hf
  exact x_iret C hR hS dX12_go_81
set_option maxRecDepth 20000 in
theorem B_X12_go_73 {p : Program} {l : Launch} {e : Env} {s : State} {m : MethodId} {args : Array Value} {below : List Frame} {meth : Method} {c : Code} {O : XO} {K : XK} {r : Int32} {h' : XH}   (C : x_C p s m args meth c O cX12_go 3 RX12 (some .int))   (ls : Array Slot) (H : Heap) (locs : List Loc) (h : XH) (v1 : Int32) (v2 : Int32) (s1 : Int32) (hl : lv_has ls 3 [(0, .ref (oX O + 64)), (1, .int v1), (2, .int v2)]) (hR : x_R O K h H) (hS : va_S (oA O) s.heap H locs) (hf : f_X12_go_73 (oX O) h v1 v2 s1 = some (r, h')) : W p l e (x_rm 3 66) s m args below meth c H locs 0 0 (MQ below (x_Qc O K h' (some (.int r))) args s 0 0 (oA O)) (F0 m 73 ls [.int s1, .ref (oX O + 64)]) := by
  have hx := C.1
  have hb := C.2.1
  rw [f_X12_go_73] at hf
  refine lv_iconst (v := 3) hx hb dX12_go_73 rfl ?_
  obtain ⟨q7, eq7, hf⟩ := x_bd hf
  refine x_cVi2 C hR hS (S_X12_throwsIf  eq7) (x_k hR 64 rfl) (by decide) rfl mf_X12_throwsIf tw_1741 (Nat.le_of_ble_eq_true rfl) (Nat.le_of_ble_eq_true rfl) hl.1 (Nat.le_of_ble_eq_true rfl) dX12_go_74 ⟨Nat.le_refl _, Nat.le_refl _⟩ (fun H locs hR hS => ?_)
  refine lv_if_eq (tgt := 82) hx hb dX12_go_77 rfl (fun hc => ?_) (fun hc => ?_)
  · have hf := x_ip hc hf
    refine lv_aload_n hx hb dX12_go_82 rfl (lv_at hl 0 rfl) ?_
    refine lv_iload_n hx hb dX12_go_83 rfl (lv_at hl 1 rfl) ?_
    refine lv_iload_n hx hb dX12_go_84 rfl (lv_at hl 2 rfl) ?_
    obtain ⟨h8, eh8, hf⟩ := x_bd hf
    refine x_cVv2 C hR hS (S_X12_touches  eh8) (x_k hR 64 rfl) (by decide) rfl mf_X12_touches tw_1829 (Nat.le_of_ble_eq_true rfl) (Nat.le_of_ble_eq_true rfl) hl.1 (Nat.le_of_ble_eq_true rfl) dX12_go_85 ⟨Nat.le_refl _, Nat.le_refl _⟩ (fun H locs hR hS => ?_)
    refine lv_aload_n hx hb dX12_go_88 rfl (lv_at hl 0 rfl) ?_
    refine lv_iload_n hx hb dX12_go_89 rfl (lv_at hl 1 rfl) ?_
    refine lv_bipush (v := 8) hx hb dX12_go_90 rfl ?_
    refine lv_aload_n hx hb dX12_go_92 rfl (lv_at hl 0 rfl) ?_
    refine lv_iload_n hx hb dX12_go_93 rfl (lv_at hl 1 rfl) ?_
    refine lv_bipush (v := 8) hx hb dX12_go_94 rfl ?_
    obtain ⟨v_9, ev_9, hf⟩ := x_bd hf
    refine x_cVi2 C hR hS (S_X12_of  ev_9) (x_k hR 64 rfl) (by decide) rfl mf_X12_of tw_1806 (Nat.le_of_ble_eq_true rfl) (Nat.le_of_ble_eq_true rfl) hl.1 (Nat.le_of_ble_eq_true rfl) dX12_go_96 ⟨Nat.le_refl _, Nat.le_refl _⟩ (fun H locs hR hS => ?_)
    refine lv_iconst (v := 1) hx hb dX12_go_99 rfl ?_
    refine lv_iadd hx hb dX12_go_100 ?_
    obtain ⟨h10, eh10, hf⟩ := x_bd hf
    refine x_cVv3 C hR hS (S_X12_sets  eh10) (x_k hR 64 rfl) (by decide) rfl mf_X12_sets tw_1790 (Nat.le_of_ble_eq_true rfl) (Nat.le_of_ble_eq_true rfl) hl.1 (Nat.le_of_ble_eq_true rfl) dX12_go_101 ⟨Nat.le_refl _, Nat.le_refl _⟩ (fun H locs hR hS => ?_)
    refine lv_aload_n hx hb dX12_go_104 rfl (lv_at hl 0 rfl) ?_
    refine lv_iload_n hx hb dX12_go_105 rfl (lv_at hl 1 rfl) ?_
    refine lv_bipush (v := 8) hx hb dX12_go_106 rfl ?_
    obtain ⟨v_11, ev_11, hf⟩ := x_bd hf
    refine x_cVi2 C hR hS (S_X12_of  ev_11) (x_k hR 64 rfl) (by decide) rfl mf_X12_of tw_1806 (Nat.le_of_ble_eq_true rfl) (Nat.le_of_ble_eq_true rfl) hl.1 (Nat.le_of_ble_eq_true rfl) dX12_go_108 ⟨Nat.le_refl _, Nat.le_refl _⟩ (fun H locs hR hS => ?_)
    cases hf
    exact x_iret C hR hS dX12_go_111
  · have hf := x_in hc hf
    exact B_X12_go_80  C   ls _ _ q7.2  (lv_sub hl [] rfl) hR hS hf
set_option maxRecDepth 20000 in
theorem B_X12_go_68 {p : Program} {l : Launch} {e : Env} {s : State} {m : MethodId} {args : Array Value} {below : List Frame} {meth : Method} {c : Code} {O : XO} {K : XK} {r : Int32} {h' : XH}   (C : x_C p s m args meth c O cX12_go 3 RX12 (some .int))   (ls : Array Slot) (H : Heap) (locs : List Loc) (h : XH) (v1 : Int32) (v2 : Int32) (hl : lv_has ls 3 [(0, .ref (oX O + 64)), (1, .int v1), (2, .int v2)]) (hR : x_R O K h H) (hS : va_S (oA O) s.heap H locs) (hf : f_X12_go_68 (oX O) h v1 v2 = some (r, h')) : W p l e (x_rm 3 66) s m args below meth c H locs 0 0 (MQ below (x_Qc O K h' (some (.int r))) args s 0 0 (oA O)) (F0 m 68 ls [.ref (oX O + 64)]) := by
  have hx := C.1
  have hb := C.2.1
  rw [f_X12_go_68] at hf
  refine lv_iconst (v := 1) hx hb dX12_go_68 rfl ?_
  refine lv_goto (tgt := 73) hx hb dX12_go_69 rfl ?_
  exact B_X12_go_73  C   ls _ _ h _ _ _  (lv_sub hl [0, 1, 2] rfl) hR hS hf
set_option maxRecDepth 20000 in
theorem S_X12_go {l : Launch} {O : XO} {K : XK} {h : XH} {v1 : Int32} {v2 : Int32}  {r : Int32} {h' : XH}  (hf : f_X12_go (oX O) h v1 v2 = some (r, h')) : x_M l O K yX12_go cX12_go 3 (some .int) 3 66 h [.ref (oX O + 64), .int v1, .int v2] (some (.int r)) h' := by
  refine x_enter (by decide) (Nat.le_of_ble_eq_true rfl) (fun p e s m args below meth c C hR ls hl => ?_)
  have hS : va_S (oA O) s.heap s.heap [] := va_S.rf
  have hx := C.1
  have hb := C.2.1
  have hl : lv_has ls 3 [(0, .ref (oX O + 64)), (1, .int v1), (2, .int v2)] := hl
  rw [f_X12_go] at hf
  refine lv_aload_n hx hb dX12_go_0 rfl (lv_at hl 0 rfl) ?_
  refine lv_iconst (v := 0) hx hb dX12_go_1 rfl ?_
  obtain ⟨h1, eh1, hf⟩ := x_lt hf
  refine pf_12_0 C hR hS (x_k hR 64 rfl) tw_1543 dX12_go_2 (fun H locs hR hS => ?_)
  rw [← eh1] at hR
  refine lv_aload_n hx hb dX12_go_5 rfl (lv_at hl 0 rfl) ?_
  refine lv_aload_n hx hb dX12_go_6 rfl (lv_at hl 0 rfl) ?_
  refine lv_iload_n hx hb dX12_go_7 rfl (lv_at hl 1 rfl) ?_
  obtain ⟨v_2, ev_2, hf⟩ := x_bd hf
  refine x_cVi1 C hR hS (S_X12_noPack  ev_2) (x_k hR 64 rfl) (by decide) rfl mf_X12_noPack tw_1802 (Nat.le_of_ble_eq_true rfl) (Nat.le_of_ble_eq_true rfl) hl.1 (Nat.le_of_ble_eq_true rfl) dX12_go_8 ⟨Nat.le_refl _, Nat.le_refl _⟩ (fun H locs hR hS => ?_)
  refine lv_iconst (v := 1) hx hb dX12_go_11 rfl ?_
  obtain ⟨q3, eq3, hf⟩ := x_bd hf
  refine x_cVi2 C hR hS (S_X12_throwsIf  eq3) (x_k hR 64 rfl) (by decide) rfl mf_X12_throwsIf tw_1741 (Nat.le_of_ble_eq_true rfl) (Nat.le_of_ble_eq_true rfl) hl.1 (Nat.le_of_ble_eq_true rfl) dX12_go_12 ⟨Nat.le_refl _, Nat.le_refl _⟩ (fun H locs hR hS => ?_)
  refine lv_if_ne (tgt := 80) hx hb dX12_go_15 rfl (fun hc => ?_) (fun hc => ?_)
  · have hf := x_in hc hf
    exact B_X12_go_80  C   ls _ _ q3.2  (lv_sub hl [] rfl) hR hS hf
  · have hf := x_ip hc hf
    refine lv_aload_n hx hb dX12_go_18 rfl (lv_at hl 0 rfl) ?_
    refine lv_aload_n hx hb dX12_go_19 rfl (lv_at hl 0 rfl) ?_
    refine lv_iload_n hx hb dX12_go_20 rfl (lv_at hl 1 rfl) ?_
    obtain ⟨v_4, ev_4, hf⟩ := x_bd hf
    refine x_cVi1 C hR hS (S_X12_isPut  ev_4) (x_k hR 64 rfl) (by decide) rfl mf_X12_isPut tw_1818 (Nat.le_of_ble_eq_true rfl) (Nat.le_of_ble_eq_true rfl) hl.1 (Nat.le_of_ble_eq_true rfl) dX12_go_21 ⟨Nat.le_refl _, Nat.le_refl _⟩ (fun H locs hR hS => ?_)
    have kM5 : ∀ (ls : Array Slot) (H : Heap) (locs : List Loc), lv_has ls 3 [(0, .ref (oX O + 64)), (1, .int v1), (2, .int v2)] → x_R O K q3.2 H → va_S (oA O) s.heap H locs → W p l e (x_rm 3 66) s m args below meth c H locs 0 0 (MQ below (x_Qc O K h' (some (.int r))) args s 0 0 (oA O)) (F0 m 32 ls [.int (if v_4 = 0 then 1 else 0), .ref (oX O + 64)]) := by
      intro ls H locs hl hR hS
      refine lv_iconst (v := 2) hx hb dX12_go_32 rfl ?_
      obtain ⟨q6, eq6, hf⟩ := x_bd hf
      refine x_cVi2 C hR hS (S_X12_throwsIf  eq6) (x_k hR 64 rfl) (by decide) rfl mf_X12_throwsIf tw_1741 (Nat.le_of_ble_eq_true rfl) (Nat.le_of_ble_eq_true rfl) hl.1 (Nat.le_of_ble_eq_true rfl) dX12_go_33 ⟨Nat.le_refl _, Nat.le_refl _⟩ (fun H locs hR hS => ?_)
      refine lv_if_ne (tgt := 80) hx hb dX12_go_36 rfl (fun hc => ?_) (fun hc => ?_)
      · have hf := x_in hc hf
        exact B_X12_go_80  C   ls _ _ q6.2  (lv_sub hl [] rfl) hR hS hf
      · have hf := x_ip hc hf
        refine lv_aload_n hx hb dX12_go_39 rfl (lv_at hl 0 rfl) ?_
        refine lv_iload_n hx hb dX12_go_40 rfl (lv_at hl 2 rfl) ?_
        refine x_cSi1 C hR hS (S_X12_noSeconds  rfl) mf_X12_noSeconds tw_1822 (Nat.le_of_ble_eq_true rfl) (Nat.le_of_ble_eq_true rfl) hl.1 (Nat.le_of_ble_eq_true rfl) dX12_go_41 ⟨Nat.le_refl _, Nat.le_refl _⟩ (fun H locs hR hS => ?_)
        refine lv_if_ne (tgt := 68) hx hb dX12_go_44 rfl (fun hc => ?_) (fun hc => ?_)
        · have hf := x_in hc hf
          exact B_X12_go_68  C   ls _ _ q6.2 _ _  (lv_sub hl [0, 1, 2] rfl) hR hS hf
        · have hf := x_ip hc hf
          refine lv_aload_n hx hb dX12_go_47 rfl (lv_at hl 0 rfl) ?_
          refine gf_12_1 C hR (x_k hR 64 rfl) tw_1544 dX12_go_48 ?_
          refine lv_bipush (v := 6) hx hb dX12_go_51 rfl ?_
          obtain ⟨g12, hf⟩ := x_gd hf
          refine x_iald C hR (x_k1 (x_k hR 65 rfl)) (x_k2 (x_k hR 65 rfl) g12) dX12_go_53 ?_
          refine lv_aload_n hx hb dX12_go_54 rfl (lv_at hl 0 rfl) ?_
          refine lv_iload_n hx hb dX12_go_55 rfl (lv_at hl 1 rfl) ?_
          obtain ⟨v_13, ev_13, hf⟩ := x_bd hf
          refine x_cVi1 C hR hS (S_X12_places  ev_13) (x_k hR 64 rfl) (by decide) rfl mf_X12_places tw_1833 (Nat.le_of_ble_eq_true rfl) (Nat.le_of_ble_eq_true rfl) hl.1 (Nat.le_of_ble_eq_true rfl) dX12_go_56 ⟨Nat.le_refl _, Nat.le_refl _⟩ (fun H locs hR hS => ?_)
          refine lv_iload_n hx hb dX12_go_59 rfl (lv_at hl 2 rfl) ?_
          refine lv_imul hx hb dX12_go_60 ?_
          refine lv_iadd hx hb dX12_go_61 ?_
          refine lv_ldcw hx hb C.2.2.2.1 (C.2.2.2.2.1 _ tw_1828) dX12_go_62 ?_
          have kM14 : ∀ (ls : Array Slot) (H : Heap) (locs : List Loc), lv_has ls 3 [(0, .ref (oX O + 64)), (1, .int v1), (2, .int v2)] → x_R O K q6.2 H → va_S (oA O) s.heap H locs → W p l e (x_rm 3 66) s m args below meth c H locs 0 0 (MQ below (x_Qc O K h' (some (.int r))) args s 0 0 (oA O)) (F0 m 73 ls [.int (if ((q6.2.1 (oX O + 65) (6 : Int32).toNatClampNeg) + (v_13 * v2)) ≤ 1000000 then 0 else 1), .ref (oX O + 64)]) := by
            intro ls H locs hl hR hS
            refine lv_iconst (v := 3) hx hb dX12_go_73 rfl ?_
            obtain ⟨q15, eq15, hf⟩ := x_bd hf
            refine x_cVi2 C hR hS (S_X12_throwsIf  eq15) (x_k hR 64 rfl) (by decide) rfl mf_X12_throwsIf tw_1741 (Nat.le_of_ble_eq_true rfl) (Nat.le_of_ble_eq_true rfl) hl.1 (Nat.le_of_ble_eq_true rfl) dX12_go_74 ⟨Nat.le_refl _, Nat.le_refl _⟩ (fun H locs hR hS => ?_)
            refine lv_if_eq (tgt := 82) hx hb dX12_go_77 rfl (fun hc => ?_) (fun hc => ?_)
            · have hf := x_ip hc hf
              refine lv_aload_n hx hb dX12_go_82 rfl (lv_at hl 0 rfl) ?_
              refine lv_iload_n hx hb dX12_go_83 rfl (lv_at hl 1 rfl) ?_
              refine lv_iload_n hx hb dX12_go_84 rfl (lv_at hl 2 rfl) ?_
              obtain ⟨h16, eh16, hf⟩ := x_bd hf
              refine x_cVv2 C hR hS (S_X12_touches  eh16) (x_k hR 64 rfl) (by decide) rfl mf_X12_touches tw_1829 (Nat.le_of_ble_eq_true rfl) (Nat.le_of_ble_eq_true rfl) hl.1 (Nat.le_of_ble_eq_true rfl) dX12_go_85 ⟨Nat.le_refl _, Nat.le_refl _⟩ (fun H locs hR hS => ?_)
              refine lv_aload_n hx hb dX12_go_88 rfl (lv_at hl 0 rfl) ?_
              refine lv_iload_n hx hb dX12_go_89 rfl (lv_at hl 1 rfl) ?_
              refine lv_bipush (v := 8) hx hb dX12_go_90 rfl ?_
              refine lv_aload_n hx hb dX12_go_92 rfl (lv_at hl 0 rfl) ?_
              refine lv_iload_n hx hb dX12_go_93 rfl (lv_at hl 1 rfl) ?_
              refine lv_bipush (v := 8) hx hb dX12_go_94 rfl ?_
              obtain ⟨v_17, ev_17, hf⟩ := x_bd hf
              refine x_cVi2 C hR hS (S_X12_of  ev_17) (x_k hR 64 rfl) (by decide) rfl mf_X12_of tw_1806 (Nat.le_of_ble_eq_true rfl) (Nat.le_of_ble_eq_true rfl) hl.1 (Nat.le_of_ble_eq_true rfl) dX12_go_96 ⟨Nat.le_refl _, Nat.le_refl _⟩ (fun H locs hR hS => ?_)
              refine lv_iconst (v := 1) hx hb dX12_go_99 rfl ?_
              refine lv_iadd hx hb dX12_go_100 ?_
              obtain ⟨h18, eh18, hf⟩ := x_bd hf
              refine x_cVv3 C hR hS (S_X12_sets  eh18) (x_k hR 64 rfl) (by decide) rfl mf_X12_sets tw_1790 (Nat.le_of_ble_eq_true rfl) (Nat.le_of_ble_eq_true rfl) hl.1 (Nat.le_of_ble_eq_true rfl) dX12_go_101 ⟨Nat.le_refl _, Nat.le_refl _⟩ (fun H locs hR hS => ?_)
              refine lv_aload_n hx hb dX12_go_104 rfl (lv_at hl 0 rfl) ?_
              refine lv_iload_n hx hb dX12_go_105 rfl (lv_at hl 1 rfl) ?_
              refine lv_bipush (v := 8) hx hb dX12_go_106 rfl ?_
              obtain ⟨v_19, ev_19, hf⟩ := x_bd hf
              refine x_cVi2 C hR hS (S_X12_of  ev_19) (x_k hR 64 rfl) (by decide) rfl mf_X12_of tw_1806 (Nat.le_of_ble_eq_true rfl) (Nat.le_of_ble_eq_true rfl) hl.1 (Nat.le_of_ble_eq_true rfl) dX12_go_108 ⟨Nat.le_refl _, Nat.le_refl _⟩ (fun H locs hR hS => ?_)
              cases hf
              exact x_iret C hR hS dX12_go_111
            · have hf := x_in hc hf
              exact B_X12_go_80  C   ls _ _ q15.2  (lv_sub hl [] rfl) hR hS hf
          refine lv_icmp_le (tgt := 72) hx hb dX12_go_65 rfl (fun hc => ?_) (fun hc => ?_)
          · try simp only [if_pos hc] at kM14
            refine lv_iconst (v := 0) hx hb dX12_go_72 rfl ?_
            exact kM14 ls _ _ (lv_sub hl [0, 1, 2] rfl) hR hS
          · try simp only [if_neg hc] at kM14
            refine lv_iconst (v := 1) hx hb dX12_go_68 rfl ?_
            refine lv_goto (tgt := 73) hx hb dX12_go_69 rfl ?_
            exact kM14 ls _ _ (lv_sub hl [0, 1, 2] rfl) hR hS
    refine lv_if_ne (tgt := 31) hx hb dX12_go_24 rfl (fun hc => ?_) (fun hc => ?_)
    · try simp only [if_neg hc] at kM5
      refine lv_iconst (v := 0) hx hb dX12_go_31 rfl ?_
      exact kM5 ls _ _ (lv_sub hl [0, 1, 2] rfl) hR hS
    · try simp only [if_pos hc] at kM5
      refine lv_iconst (v := 1) hx hb dX12_go_27 rfl ?_
      refine lv_goto (tgt := 32) hx hb dX12_go_28 rfl ?_
      exact kM5 ls _ _ (lv_sub hl [0, 1, 2] rfl) hR hS
def f_X12_placeAt_49 (x : Nat) (h : XH) : Option Int32 := some (-1)
def f_X12_placeAt (x : Nat) (h : XH) (v1 : Int32) (v2 : Int32) (v3 : Int32) : Option Int32 := Option.bind (f_X12_of x h v1 5) (fun v_1 => Option.bind (f_X12_isPut x h v1) (fun v_2 => if v_2 = 0 then f_X12_placeAt_49 x h else Option.bind (f_X12_of x h v1 4) (fun v_3 => if v_3 = v2 then Option.bind (f_X12_places x h v1) (fun v_4 => some (if (f_X12_in h (v3 - v_1) 0 (v_4 - 1)) = 0 then (-1) else (v3 - v_1))) else f_X12_placeAt_49 x h)))
set_option maxRecDepth 20000 in
theorem B_X12_placeAt_49 {p : Program} {l : Launch} {e : Env} {s : State} {m : MethodId} {args : Array Value} {below : List Frame} {meth : Method} {c : Code} {O : XO} {K : XK} {h : XH} {r : Int32}   (C : x_C p s m args meth c O cX12_placeAt 5 RX12 (some .int))   (ls : Array Slot) (H : Heap) (locs : List Loc) (hl : lv_has ls 5 []) (hR : x_R O K h H) (hS : va_S (oA O) s.heap H locs) (hf : f_X12_placeAt_49 (oX O) h = some r) : W p l e (x_rm 2 43) s m args below meth c H locs 0 0 (MQ below (x_Qc O K h (some (.int r))) args s 0 0 (oA O)) (F0 m 49 ls []) := by
  have hx := C.1
  have hb := C.2.1
  rw [f_X12_placeAt_49] at hf
  refine lv_iconst (v := (-1)) hx hb dX12_placeAt_49 rfl ?_
  cases hf
  exact x_iret C hR hS dX12_placeAt_50
set_option maxRecDepth 20000 in
theorem S_X12_placeAt {l : Launch} {O : XO} {K : XK} {h : XH} {v1 : Int32} {v2 : Int32} {v3 : Int32}  {r : Int32}  (hf : f_X12_placeAt (oX O) h v1 v2 v3 = some r) : x_M l O K yX12_placeAt cX12_placeAt 5 (some .int) 2 43 h [.ref (oX O + 64), .int v1, .int v2, .int v3] (some (.int r)) h := by
  refine x_enter (by decide) (Nat.le_of_ble_eq_true rfl) (fun p e s m args below meth c C hR ls hl => ?_)
  have hS : va_S (oA O) s.heap s.heap [] := va_S.rf
  have hx := C.1
  have hb := C.2.1
  have hl : lv_has ls 5 [(0, .ref (oX O + 64)), (1, .int v1), (2, .int v2), (3, .int v3)] := hl
  rw [f_X12_placeAt] at hf
  refine lv_iload_n hx hb dX12_placeAt_0 rfl (lv_at hl 3 rfl) ?_
  refine lv_aload_n hx hb dX12_placeAt_1 rfl (lv_at hl 0 rfl) ?_
  refine lv_iload_n hx hb dX12_placeAt_2 rfl (lv_at hl 1 rfl) ?_
  refine lv_iconst (v := 5) hx hb dX12_placeAt_3 rfl ?_
  obtain ⟨v_1, ev_1, hf⟩ := x_bd hf
  refine x_cVi2 C hR hS (S_X12_of  ev_1) (x_k hR 64 rfl) (by decide) rfl mf_X12_of tw_1806 (Nat.le_of_ble_eq_true rfl) (Nat.le_of_ble_eq_true rfl) hl.1 (Nat.le_of_ble_eq_true rfl) dX12_placeAt_4 ⟨Nat.le_refl _, Nat.le_refl _⟩ (fun H locs hR hS => ?_)
  refine lv_isub hx hb dX12_placeAt_7 ?_
  refine lv_istore (lv' := [(4, _), (0, _), (1, _), (2, _), (3, _)]) hx hb dX12_placeAt_8 hl (Nat.le_of_ble_eq_true rfl) rfl (fun ls hl => ?_)
  refine lv_aload_n hx hb dX12_placeAt_10 rfl (lv_at hl 1 rfl) ?_
  refine lv_iload_n hx hb dX12_placeAt_11 rfl (lv_at hl 2 rfl) ?_
  obtain ⟨v_2, ev_2, hf⟩ := x_bd hf
  refine x_cVi1 C hR hS (S_X12_isPut  ev_2) (x_k hR 64 rfl) (by decide) rfl mf_X12_isPut tw_1818 (Nat.le_of_ble_eq_true rfl) (Nat.le_of_ble_eq_true rfl) hl.1 (Nat.le_of_ble_eq_true rfl) dX12_placeAt_12 ⟨Nat.le_refl _, Nat.le_refl _⟩ (fun H locs hR hS => ?_)
  refine lv_if_eq (tgt := 49) hx hb dX12_placeAt_15 rfl (fun hc => ?_) (fun hc => ?_)
  · have hf := x_ip hc hf
    exact B_X12_placeAt_49  C   ls _ _   (lv_sub hl [] rfl) hR hS hf
  · have hf := x_in hc hf
    refine lv_aload_n hx hb dX12_placeAt_18 rfl (lv_at hl 1 rfl) ?_
    refine lv_iload_n hx hb dX12_placeAt_19 rfl (lv_at hl 2 rfl) ?_
    refine lv_iconst (v := 4) hx hb dX12_placeAt_20 rfl ?_
    obtain ⟨v_3, ev_3, hf⟩ := x_bd hf
    refine x_cVi2 C hR hS (S_X12_of  ev_3) (x_k hR 64 rfl) (by decide) rfl mf_X12_of tw_1806 (Nat.le_of_ble_eq_true rfl) (Nat.le_of_ble_eq_true rfl) hl.1 (Nat.le_of_ble_eq_true rfl) dX12_placeAt_21 ⟨Nat.le_refl _, Nat.le_refl _⟩ (fun H locs hR hS => ?_)
    refine lv_iload_n hx hb dX12_placeAt_24 rfl (lv_at hl 3 rfl) ?_
    refine lv_icmp_ne (tgt := 49) hx hb dX12_placeAt_25 rfl (fun hc => ?_) (fun hc => ?_)
    · have hf := x_in hc hf
      exact B_X12_placeAt_49  C   ls _ _   (lv_sub hl [] rfl) hR hS hf
    · have hf := x_ip hc hf
      refine lv_iload hx hb dX12_placeAt_28 (lv_at hl 0 rfl) ?_
      refine lv_iconst (v := 0) hx hb dX12_placeAt_30 rfl ?_
      refine lv_aload_n hx hb dX12_placeAt_31 rfl (lv_at hl 1 rfl) ?_
      refine lv_iload_n hx hb dX12_placeAt_32 rfl (lv_at hl 2 rfl) ?_
      obtain ⟨v_4, ev_4, hf⟩ := x_bd hf
      refine x_cVi1 C hR hS (S_X12_places  ev_4) (x_k hR 64 rfl) (by decide) rfl mf_X12_places tw_1833 (Nat.le_of_ble_eq_true rfl) (Nat.le_of_ble_eq_true rfl) hl.1 (Nat.le_of_ble_eq_true rfl) dX12_placeAt_33 ⟨Nat.le_refl _, Nat.le_refl _⟩ (fun H locs hR hS => ?_)
      refine lv_iconst (v := 1) hx hb dX12_placeAt_36 rfl ?_
      refine lv_isub hx hb dX12_placeAt_37 ?_
      refine x_cSi3 C hR hS (S_X12_in  rfl) mf_X12_in tw_1756 (Nat.le_of_ble_eq_true rfl) (Nat.le_of_ble_eq_true rfl) hl.1 (Nat.le_of_ble_eq_true rfl) dX12_placeAt_38 ⟨Nat.le_refl _, Nat.le_refl _⟩ (fun H locs hR hS => ?_)
      have kM5 : ∀ (ls : Array Slot) (H : Heap) (locs : List Loc), lv_has ls 5 [] → x_R O K h H → va_S (oA O) s.heap H locs → W p l e (x_rm 2 43) s m args below meth c H locs 0 0 (MQ below (x_Qc O K h (some (.int r))) args s 0 0 (oA O)) (F0 m 50 ls [.int (if (f_X12_in h (v3 - v_1) 0 (v_4 - 1)) = 0 then (-1) else (v3 - v_1))]) := by
        intro ls H locs hl hR hS
        cases hf
        exact x_iret C hR hS dX12_placeAt_50
      refine lv_if_eq (tgt := 49) hx hb dX12_placeAt_41 rfl (fun hc => ?_) (fun hc => ?_)
      · try simp only [if_pos hc] at kM5
        refine lv_iconst (v := (-1)) hx hb dX12_placeAt_49 rfl ?_
        exact kM5 ls _ _ (lv_sub hl [] rfl) hR hS
      · try simp only [if_neg hc] at kM5
        refine lv_iload hx hb dX12_placeAt_44 (lv_at hl 0 rfl) ?_
        refine lv_goto (tgt := 50) hx hb dX12_placeAt_46 rfl ?_
        exact kM5 ls _ _ (lv_sub hl [] rfl) hR hS
def f_X12_oldAt_53 (k6 : Int32 → Int32 → Int32 → Int32 → Int32 → Int32 → Option Int32) (x : Nat) (h : XH) (v1 : Int32) (v2 : Int32) (v3 : Int32) (v4 : Int32) (v6 : Int32) (s0 : Int32) (s1 : Int32) : Option Int32 := k6 v1 v2 v3 v4 (s0 + s1) (v6 + 1)
def f_X12_oldAt_52 (k6 : Int32 → Int32 → Int32 → Int32 → Int32 → Int32 → Option Int32) (x : Nat) (h : XH) (v1 : Int32) (v2 : Int32) (v3 : Int32) (v4 : Int32) (v6 : Int32) (s0 : Int32) : Option Int32 := f_X12_oldAt_53 k6 x h v1 v2 v3 v4 v6 s0 0
def f_X12_oldAt_6 (x : Nat) (h : XH) : Nat → Int32 → Int32 → Int32 → Int32 → Int32 → Int32 → Option Int32
  | 0, _, _, _, _, _, _ => none
  | n + 1, v1, v2, v3, v4, v5, v6 => if x_b 1 6927 = true then if (h.1 (x + 65) (1 : Int32).toNatClampNeg) ≤ v6 then some v5 else if v6 = v1 then f_X12_oldAt_52 (f_X12_oldAt_6 x h n) x h v1 v2 v3 v4 v6 v5 else Option.bind (f_X12_of x h v6 3) (fun v_2 => if v4 ≤ v_2 then f_X12_oldAt_52 (f_X12_oldAt_6 x h n) x h v1 v2 v3 v4 v6 v5 else Option.bind (f_X12_placeAt x h v6 v2 v3) (fun v_3 => x_let ((v5 + (if v_3 < 0 then 0 else 1)) : Int32) (fun t5 => f_X12_oldAt_6 x h n v1 v2 v3 v4 t5 (v6 + 1)))) else none
def f_X12_oldAt (x : Nat) (h : XH) (v1 : Int32) (v2 : Int32) (v3 : Int32) (v4 : Int32) : Option Int32 := f_X12_oldAt_6 x h x_FU v1 v2 v3 v4 0 0
set_option maxRecDepth 20000 in
theorem B_X12_oldAt_53 {p : Program} {l : Launch} {e : Env} {s : State} {m : MethodId} {args : Array Value} {below : List Frame} {meth : Method} {c : Code} {O : XO} {K : XK} {h : XH} {r : Int32}  {k6 : Int32 → Int32 → Int32 → Int32 → Int32 → Int32 → Option Int32} (C : x_C p s m args meth c O cX12_oldAt 7 RX12 (some .int)) (hk6 : ∀ (ls : Array Slot) (H : Heap) (locs : List Loc) (v1 : Int32) (v2 : Int32) (v3 : Int32) (v4 : Int32) (v5 : Int32) (v6 : Int32), lv_has ls 7 [(0, .ref (oX O + 64)), (1, .int v1), (2, .int v2), (3, .int v3), (4, .int v4), (5, .int v5), (6, .int v6)] → x_R O K h H → va_S (oA O) s.heap H locs → k6 v1 v2 v3 v4 v5 v6 = some r → W p l e (x_rm 3 67) s m args below meth c H locs 0 0 (MQ below (x_Qc O K h (some (.int r))) args s 0 0 (oA O)) (F0 m 6 ls []))  (ls : Array Slot) (H : Heap) (locs : List Loc) (v1 : Int32) (v2 : Int32) (v3 : Int32) (v4 : Int32) (v6 : Int32) (s0 : Int32) (s1 : Int32) (hl : lv_has ls 7 [(0, .ref (oX O + 64)), (1, .int v1), (2, .int v2), (3, .int v3), (4, .int v4), (6, .int v6)]) (hR : x_R O K h H) (hS : va_S (oA O) s.heap H locs) (hf : f_X12_oldAt_53 k6 (oX O) h v1 v2 v3 v4 v6 s0 s1 = some r) : W p l e (x_rm 3 67) s m args below meth c H locs 0 0 (MQ below (x_Qc O K h (some (.int r))) args s 0 0 (oA O)) (F0 m 53 ls [.int s1, .int s0]) := by
  have hx := C.1
  have hb := C.2.1
  rw [f_X12_oldAt_53] at hf
  refine lv_iadd hx hb dX12_oldAt_53 ?_
  refine lv_istore (lv' := [(5, _), (0, _), (1, _), (2, _), (3, _), (4, _), (6, _)]) hx hb dX12_oldAt_54 hl (Nat.le_of_ble_eq_true rfl) rfl (fun ls hl => ?_)
  refine lv_iinc (k := 6) (v := _ + 1) (lv' := [(6, _), (5, _), (0, _), (1, _), (2, _), (3, _), (4, _)]) hx hb dX12_oldAt_56 hl rfl (x_inc 1 1 rfl _) (Nat.le_of_ble_eq_true rfl) rfl (fun ls hl => ?_)
  refine lv_goto (tgt := 6) hx hb dX12_oldAt_59 rfl ?_
  exact hk6 ls _ _ _ _ _ _ _ _  (lv_sub hl [2, 3, 4, 5, 6, 1, 0] rfl) hR hS hf
set_option maxRecDepth 20000 in
theorem B_X12_oldAt_52 {p : Program} {l : Launch} {e : Env} {s : State} {m : MethodId} {args : Array Value} {below : List Frame} {meth : Method} {c : Code} {O : XO} {K : XK} {h : XH} {r : Int32}  {k6 : Int32 → Int32 → Int32 → Int32 → Int32 → Int32 → Option Int32} (C : x_C p s m args meth c O cX12_oldAt 7 RX12 (some .int)) (hk6 : ∀ (ls : Array Slot) (H : Heap) (locs : List Loc) (v1 : Int32) (v2 : Int32) (v3 : Int32) (v4 : Int32) (v5 : Int32) (v6 : Int32), lv_has ls 7 [(0, .ref (oX O + 64)), (1, .int v1), (2, .int v2), (3, .int v3), (4, .int v4), (5, .int v5), (6, .int v6)] → x_R O K h H → va_S (oA O) s.heap H locs → k6 v1 v2 v3 v4 v5 v6 = some r → W p l e (x_rm 3 67) s m args below meth c H locs 0 0 (MQ below (x_Qc O K h (some (.int r))) args s 0 0 (oA O)) (F0 m 6 ls []))  (ls : Array Slot) (H : Heap) (locs : List Loc) (v1 : Int32) (v2 : Int32) (v3 : Int32) (v4 : Int32) (v6 : Int32) (s0 : Int32) (hl : lv_has ls 7 [(0, .ref (oX O + 64)), (1, .int v1), (2, .int v2), (3, .int v3), (4, .int v4), (6, .int v6)]) (hR : x_R O K h H) (hS : va_S (oA O) s.heap H locs) (hf : f_X12_oldAt_52 k6 (oX O) h v1 v2 v3 v4 v6 s0 = some r) : W p l e (x_rm 3 67) s m args below meth c H locs 0 0 (MQ below (x_Qc O K h (some (.int r))) args s 0 0 (oA O)) (F0 m 52 ls [.int s0]) := by
  have hx := C.1
  have hb := C.2.1
  rw [f_X12_oldAt_52] at hf
  refine lv_iconst (v := 0) hx hb dX12_oldAt_52 rfl ?_
  exact B_X12_oldAt_53  C hk6  ls _ _ _ _ _ _ _ _ _  (lv_sub hl [0, 1, 2, 3, 4, 5] rfl) hR hS hf
set_option maxRecDepth 20000 in
theorem B_X12_oldAt_6 {p : Program} {l : Launch} {e : Env} {s : State} {m : MethodId} {args : Array Value} {below : List Frame} {meth : Method} {c : Code} {O : XO} {K : XK} {h : XH} {r : Int32}   (C : x_C p s m args meth c O cX12_oldAt 7 RX12 (some .int))   : ∀ (n : Nat) (ls : Array Slot) (H : Heap) (locs : List Loc) (v1 : Int32) (v2 : Int32) (v3 : Int32) (v4 : Int32) (v5 : Int32) (v6 : Int32) (hl : lv_has ls 7 [(0, .ref (oX O + 64)), (1, .int v1), (2, .int v2), (3, .int v3), (4, .int v4), (5, .int v5), (6, .int v6)]) (hR : x_R O K h H) (hS : va_S (oA O) s.heap H locs) (hf : f_X12_oldAt_6 (oX O) h n v1 v2 v3 v4 v5 v6 = some r), W p l e (x_rm 3 67) s m args below meth c H locs 0 0 (MQ below (x_Qc O K h (some (.int r))) args s 0 0 (oA O)) (F0 m 6 ls []) := by
  have hx := C.1
  have hb := C.2.1
  intro n
  induction n with
  | zero =>
    intro ls H locs v1 v2 v3 v4 v5 v6 hl hR hS hf
    rw [f_X12_oldAt_6] at hf
    cases hf
  | succ n ih =>
    intro ls H locs v1 v2 v3 v4 v5 v6 hl hR hS hf
    rw [f_X12_oldAt_6] at hf
    refine lv_iload hx hb dX12_oldAt_6 (lv_at hl 6 rfl) ?_
    refine lv_aload_n hx hb dX12_oldAt_8 rfl (lv_at hl 0 rfl) ?_
    refine gf_12_1 C hR (x_k hR 64 rfl) tw_1544 dX12_oldAt_9 ?_
    refine lv_iconst (v := 1) hx hb dX12_oldAt_12 rfl ?_
    obtain ⟨g1, hf⟩ := x_gd hf
    refine x_iald C hR (x_k1 (x_k hR 65 rfl)) (x_k2 (x_k hR 65 rfl) g1) dX12_oldAt_13 ?_
    refine lv_icmp_ge (tgt := 62) hx hb dX12_oldAt_14 rfl (fun hc => ?_) (fun hc => ?_)
    · have hf := x_ip hc hf
      refine lv_iload hx hb dX12_oldAt_62 (lv_at hl 5 rfl) ?_
      cases hf
      exact x_iret C hR hS dX12_oldAt_64
    · have hf := x_in hc hf
      refine lv_iload hx hb dX12_oldAt_17 (lv_at hl 5 rfl) ?_
      refine lv_iload hx hb dX12_oldAt_19 (lv_at hl 6 rfl) ?_
      refine lv_iload_n hx hb dX12_oldAt_21 rfl (lv_at hl 1 rfl) ?_
      refine lv_icmp_eq (tgt := 52) hx hb dX12_oldAt_22 rfl (fun hc => ?_) (fun hc => ?_)
      · have hf := x_ip hc hf
        exact B_X12_oldAt_52  C ih  ls _ _ _ _ _ _ _ _  (lv_sub hl [0, 1, 2, 3, 4, 6] rfl) hR hS hf
      · have hf := x_in hc hf
        refine lv_aload_n hx hb dX12_oldAt_25 rfl (lv_at hl 0 rfl) ?_
        refine lv_iload hx hb dX12_oldAt_26 (lv_at hl 6 rfl) ?_
        refine lv_iconst (v := 3) hx hb dX12_oldAt_28 rfl ?_
        obtain ⟨v_2, ev_2, hf⟩ := x_bd hf
        refine x_cVi2 C hR hS (S_X12_of  ev_2) (x_k hR 64 rfl) (by decide) rfl mf_X12_of tw_1806 (Nat.le_of_ble_eq_true rfl) (Nat.le_of_ble_eq_true rfl) hl.1 (Nat.le_of_ble_eq_true rfl) dX12_oldAt_29 ⟨Nat.le_refl _, Nat.le_refl _⟩ (fun H locs hR hS => ?_)
        refine lv_iload hx hb dX12_oldAt_32 (lv_at hl 4 rfl) ?_
        refine lv_icmp_ge (tgt := 52) hx hb dX12_oldAt_34 rfl (fun hc => ?_) (fun hc => ?_)
        · have hf := x_ip hc hf
          exact B_X12_oldAt_52  C ih  ls _ _ _ _ _ _ _ _  (lv_sub hl [0, 1, 2, 3, 4, 6] rfl) hR hS hf
        · have hf := x_in hc hf
          refine lv_aload_n hx hb dX12_oldAt_37 rfl (lv_at hl 0 rfl) ?_
          refine lv_iload hx hb dX12_oldAt_38 (lv_at hl 6 rfl) ?_
          refine lv_iload_n hx hb dX12_oldAt_40 rfl (lv_at hl 2 rfl) ?_
          refine lv_iload_n hx hb dX12_oldAt_41 rfl (lv_at hl 3 rfl) ?_
          obtain ⟨v_3, ev_3, hf⟩ := x_bd hf
          refine x_cVi3 C hR hS (S_X12_placeAt  ev_3) (x_k hR 64 rfl) (by decide) rfl mf_X12_placeAt tw_1865 (Nat.le_of_ble_eq_true rfl) (Nat.le_of_ble_eq_true rfl) hl.1 (Nat.le_of_ble_eq_true rfl) dX12_oldAt_42 ⟨Nat.le_refl _, Nat.le_refl _⟩ (fun H locs hR hS => ?_)
          have kM4 : ∀ (ls : Array Slot) (H : Heap) (locs : List Loc), lv_has ls 7 [(0, .ref (oX O + 64)), (1, .int v1), (2, .int v2), (3, .int v3), (4, .int v4), (6, .int v6)] → x_R O K h H → va_S (oA O) s.heap H locs → W p l e (x_rm 3 67) s m args below meth c H locs 0 0 (MQ below (x_Qc O K h (some (.int r))) args s 0 0 (oA O)) (F0 m 53 ls [.int (if v_3 < 0 then 0 else 1), .int v5]) := by
            intro ls H locs hl hR hS
            refine lv_iadd hx hb dX12_oldAt_53 ?_
            obtain ⟨t5, et5, hf⟩ := x_lt hf
            refine x_nmi et5 ?_
            refine lv_istore (lv' := [(5, _), (0, _), (1, _), (2, _), (3, _), (4, _), (6, _)]) hx hb dX12_oldAt_54 hl (Nat.le_of_ble_eq_true rfl) rfl (fun ls hl => ?_)
            refine lv_iinc (k := 6) (v := _ + 1) (lv' := [(6, _), (5, _), (0, _), (1, _), (2, _), (3, _), (4, _)]) hx hb dX12_oldAt_56 hl rfl (x_inc 1 1 rfl _) (Nat.le_of_ble_eq_true rfl) rfl (fun ls hl => ?_)
            refine lv_goto (tgt := 6) hx hb dX12_oldAt_59 rfl ?_
            exact ih ls _ _ _ _ _ _ _ _  (lv_sub hl [2, 3, 4, 5, 6, 1, 0] rfl) hR hS hf
          refine lv_if_lt (tgt := 52) hx hb dX12_oldAt_45 rfl (fun hc => ?_) (fun hc => ?_)
          · try simp only [if_pos hc] at kM4
            refine lv_iconst (v := 0) hx hb dX12_oldAt_52 rfl ?_
            exact kM4 ls _ _ (lv_sub hl [0, 1, 2, 3, 4, 6] rfl) hR hS
          · try simp only [if_neg hc] at kM4
            refine lv_iconst (v := 1) hx hb dX12_oldAt_48 rfl ?_
            refine lv_goto (tgt := 53) hx hb dX12_oldAt_49 rfl ?_
            exact kM4 ls _ _ (lv_sub hl [0, 1, 2, 3, 4, 6] rfl) hR hS
set_option maxRecDepth 20000 in
theorem S_X12_oldAt {l : Launch} {O : XO} {K : XK} {h : XH} {v1 : Int32} {v2 : Int32} {v3 : Int32} {v4 : Int32}  {r : Int32}  (hf : f_X12_oldAt (oX O) h v1 v2 v3 v4 = some r) : x_M l O K yX12_oldAt cX12_oldAt 7 (some .int) 3 67 h [.ref (oX O + 64), .int v1, .int v2, .int v3, .int v4] (some (.int r)) h := by
  refine x_enter (by decide) (Nat.le_of_ble_eq_true rfl) (fun p e s m args below meth c C hR ls hl => ?_)
  have hS : va_S (oA O) s.heap s.heap [] := va_S.rf
  have hx := C.1
  have hb := C.2.1
  have hl : lv_has ls 7 [(0, .ref (oX O + 64)), (1, .int v1), (2, .int v2), (3, .int v3), (4, .int v4)] := hl
  rw [f_X12_oldAt] at hf
  refine lv_iconst (v := 0) hx hb dX12_oldAt_0 rfl ?_
  refine lv_istore (lv' := [(5, _), (0, _), (1, _), (2, _), (3, _), (4, _)]) hx hb dX12_oldAt_1 hl (Nat.le_of_ble_eq_true rfl) rfl (fun ls hl => ?_)
  refine lv_iconst (v := 0) hx hb dX12_oldAt_3 rfl ?_
  refine lv_istore (lv' := [(6, _), (5, _), (0, _), (1, _), (2, _), (3, _), (4, _)]) hx hb dX12_oldAt_4 hl (Nat.le_of_ble_eq_true rfl) rfl (fun ls hl => ?_)
  exact B_X12_oldAt_6  C  x_FU ls _ _ _ _ _ _ _ _  (lv_sub hl [2, 3, 4, 5, 6, 1, 0] rfl) hR hS hf
def f_X12_likeAt_47 (k6 : Int32 → Int32 → Int32 → Int32 → Int32 → Int32 → Option Int32) (x : Nat) (h : XH) (v1 : Int32) (v2 : Int32) (v3 : Int32) (v4 : Int32) (v6 : Int32) (s0 : Int32) (s1 : Int32) : Option Int32 := k6 v1 v2 v3 v4 (s0 + s1) (v6 + 1)
def f_X12_likeAt_46 (k6 : Int32 → Int32 → Int32 → Int32 → Int32 → Int32 → Option Int32) (x : Nat) (h : XH) (v1 : Int32) (v2 : Int32) (v3 : Int32) (v4 : Int32) (v6 : Int32) (s0 : Int32) : Option Int32 := f_X12_likeAt_47 k6 x h v1 v2 v3 v4 v6 s0 0
def f_X12_likeAt_6 (x : Nat) (h : XH) : Nat → Int32 → Int32 → Int32 → Int32 → Int32 → Int32 → Option Int32
  | 0, _, _, _, _, _, _ => none
  | n + 1, v1, v2, v3, v4, v5, v6 => if v3 ≤ v6 then some v5 else if v6 = v4 then f_X12_likeAt_46 (f_X12_likeAt_6 x h n) x h v1 v2 v3 v4 v6 v5 else Option.bind (f_X12_lookOf x h v1 (v2 + v6)) (fun v_1 => Option.bind (f_X12_lookOf x h v1 (v2 + v4)) (fun v_2 => x_let ((v5 + (if v_1 = v_2 then 1 else 0)) : Int32) (fun t4 => f_X12_likeAt_6 x h n v1 v2 v3 v4 t4 (v6 + 1))))
def f_X12_likeAt (x : Nat) (h : XH) (v1 : Int32) (v2 : Int32) (v3 : Int32) (v4 : Int32) : Option Int32 := f_X12_likeAt_6 x h x_FU v1 v2 v3 v4 0 0
set_option maxRecDepth 20000 in
theorem B_X12_likeAt_47 {p : Program} {l : Launch} {e : Env} {s : State} {m : MethodId} {args : Array Value} {below : List Frame} {meth : Method} {c : Code} {O : XO} {K : XK} {h : XH} {r : Int32}  {k6 : Int32 → Int32 → Int32 → Int32 → Int32 → Int32 → Option Int32} (C : x_C p s m args meth c O cX12_likeAt 7 RX12 (some .int)) (hk6 : ∀ (ls : Array Slot) (H : Heap) (locs : List Loc) (v1 : Int32) (v2 : Int32) (v3 : Int32) (v4 : Int32) (v5 : Int32) (v6 : Int32), lv_has ls 7 [(0, .ref (oX O + 64)), (1, .int v1), (2, .int v2), (3, .int v3), (4, .int v4), (5, .int v5), (6, .int v6)] → x_R O K h H → va_S (oA O) s.heap H locs → k6 v1 v2 v3 v4 v5 v6 = some r → W p l e (x_rm 1 22) s m args below meth c H locs 0 0 (MQ below (x_Qc O K h (some (.int r))) args s 0 0 (oA O)) (F0 m 6 ls []))  (ls : Array Slot) (H : Heap) (locs : List Loc) (v1 : Int32) (v2 : Int32) (v3 : Int32) (v4 : Int32) (v6 : Int32) (s0 : Int32) (s1 : Int32) (hl : lv_has ls 7 [(0, .ref (oX O + 64)), (1, .int v1), (2, .int v2), (3, .int v3), (4, .int v4), (6, .int v6)]) (hR : x_R O K h H) (hS : va_S (oA O) s.heap H locs) (hf : f_X12_likeAt_47 k6 (oX O) h v1 v2 v3 v4 v6 s0 s1 = some r) : W p l e (x_rm 1 22) s m args below meth c H locs 0 0 (MQ below (x_Qc O K h (some (.int r))) args s 0 0 (oA O)) (F0 m 47 ls [.int s1, .int s0]) := by
  have hx := C.1
  have hb := C.2.1
  rw [f_X12_likeAt_47] at hf
  refine lv_iadd hx hb dX12_likeAt_47 ?_
  refine lv_istore (lv' := [(5, _), (0, _), (1, _), (2, _), (3, _), (4, _), (6, _)]) hx hb dX12_likeAt_48 hl (Nat.le_of_ble_eq_true rfl) rfl (fun ls hl => ?_)
  refine lv_iinc (k := 6) (v := _ + 1) (lv' := [(6, _), (5, _), (0, _), (1, _), (2, _), (3, _), (4, _)]) hx hb dX12_likeAt_50 hl rfl (x_inc 1 1 rfl _) (Nat.le_of_ble_eq_true rfl) rfl (fun ls hl => ?_)
  refine lv_goto (tgt := 6) hx hb dX12_likeAt_53 rfl ?_
  exact hk6 ls _ _ _ _ _ _ _ _  (lv_sub hl [2, 3, 4, 5, 6, 1, 0] rfl) hR hS hf
set_option maxRecDepth 20000 in
theorem B_X12_likeAt_46 {p : Program} {l : Launch} {e : Env} {s : State} {m : MethodId} {args : Array Value} {below : List Frame} {meth : Method} {c : Code} {O : XO} {K : XK} {h : XH} {r : Int32}  {k6 : Int32 → Int32 → Int32 → Int32 → Int32 → Int32 → Option Int32} (C : x_C p s m args meth c O cX12_likeAt 7 RX12 (some .int)) (hk6 : ∀ (ls : Array Slot) (H : Heap) (locs : List Loc) (v1 : Int32) (v2 : Int32) (v3 : Int32) (v4 : Int32) (v5 : Int32) (v6 : Int32), lv_has ls 7 [(0, .ref (oX O + 64)), (1, .int v1), (2, .int v2), (3, .int v3), (4, .int v4), (5, .int v5), (6, .int v6)] → x_R O K h H → va_S (oA O) s.heap H locs → k6 v1 v2 v3 v4 v5 v6 = some r → W p l e (x_rm 1 22) s m args below meth c H locs 0 0 (MQ below (x_Qc O K h (some (.int r))) args s 0 0 (oA O)) (F0 m 6 ls []))  (ls : Array Slot) (H : Heap) (locs : List Loc) (v1 : Int32) (v2 : Int32) (v3 : Int32) (v4 : Int32) (v6 : Int32) (s0 : Int32) (hl : lv_has ls 7 [(0, .ref (oX O + 64)), (1, .int v1), (2, .int v2), (3, .int v3), (4, .int v4), (6, .int v6)]) (hR : x_R O K h H) (hS : va_S (oA O) s.heap H locs) (hf : f_X12_likeAt_46 k6 (oX O) h v1 v2 v3 v4 v6 s0 = some r) : W p l e (x_rm 1 22) s m args below meth c H locs 0 0 (MQ below (x_Qc O K h (some (.int r))) args s 0 0 (oA O)) (F0 m 46 ls [.int s0]) := by
  have hx := C.1
  have hb := C.2.1
  rw [f_X12_likeAt_46] at hf
  refine lv_iconst (v := 0) hx hb dX12_likeAt_46 rfl ?_
  exact B_X12_likeAt_47  C hk6  ls _ _ _ _ _ _ _ _ _  (lv_sub hl [0, 1, 2, 3, 4, 5] rfl) hR hS hf
set_option maxRecDepth 20000 in
theorem B_X12_likeAt_6 {p : Program} {l : Launch} {e : Env} {s : State} {m : MethodId} {args : Array Value} {below : List Frame} {meth : Method} {c : Code} {O : XO} {K : XK} {h : XH} {r : Int32}   (C : x_C p s m args meth c O cX12_likeAt 7 RX12 (some .int))   : ∀ (n : Nat) (ls : Array Slot) (H : Heap) (locs : List Loc) (v1 : Int32) (v2 : Int32) (v3 : Int32) (v4 : Int32) (v5 : Int32) (v6 : Int32) (hl : lv_has ls 7 [(0, .ref (oX O + 64)), (1, .int v1), (2, .int v2), (3, .int v3), (4, .int v4), (5, .int v5), (6, .int v6)]) (hR : x_R O K h H) (hS : va_S (oA O) s.heap H locs) (hf : f_X12_likeAt_6 (oX O) h n v1 v2 v3 v4 v5 v6 = some r), W p l e (x_rm 1 22) s m args below meth c H locs 0 0 (MQ below (x_Qc O K h (some (.int r))) args s 0 0 (oA O)) (F0 m 6 ls []) := by
  have hx := C.1
  have hb := C.2.1
  intro n
  induction n with
  | zero =>
    intro ls H locs v1 v2 v3 v4 v5 v6 hl hR hS hf
    rw [f_X12_likeAt_6] at hf
    cases hf
  | succ n ih =>
    intro ls H locs v1 v2 v3 v4 v5 v6 hl hR hS hf
    rw [f_X12_likeAt_6] at hf
    refine lv_iload hx hb dX12_likeAt_6 (lv_at hl 6 rfl) ?_
    refine lv_iload_n hx hb dX12_likeAt_8 rfl (lv_at hl 3 rfl) ?_
    refine lv_icmp_ge (tgt := 56) hx hb dX12_likeAt_9 rfl (fun hc => ?_) (fun hc => ?_)
    · have hf := x_ip hc hf
      refine lv_iload hx hb dX12_likeAt_56 (lv_at hl 5 rfl) ?_
      cases hf
      exact x_iret C hR hS dX12_likeAt_58
    · have hf := x_in hc hf
      refine lv_iload hx hb dX12_likeAt_12 (lv_at hl 5 rfl) ?_
      refine lv_iload hx hb dX12_likeAt_14 (lv_at hl 6 rfl) ?_
      refine lv_iload hx hb dX12_likeAt_16 (lv_at hl 4 rfl) ?_
      refine lv_icmp_eq (tgt := 46) hx hb dX12_likeAt_18 rfl (fun hc => ?_) (fun hc => ?_)
      · have hf := x_ip hc hf
        exact B_X12_likeAt_46  C ih  ls _ _ _ _ _ _ _ _  (lv_sub hl [0, 1, 2, 3, 4, 6] rfl) hR hS hf
      · have hf := x_in hc hf
        refine lv_aload_n hx hb dX12_likeAt_21 rfl (lv_at hl 0 rfl) ?_
        refine lv_iload_n hx hb dX12_likeAt_22 rfl (lv_at hl 1 rfl) ?_
        refine lv_iload_n hx hb dX12_likeAt_23 rfl (lv_at hl 2 rfl) ?_
        refine lv_iload hx hb dX12_likeAt_24 (lv_at hl 6 rfl) ?_
        refine lv_iadd hx hb dX12_likeAt_26 ?_
        obtain ⟨v_1, ev_1, hf⟩ := x_bd hf
        refine x_cVi2 C hR hS (S_X12_lookOf  ev_1) (x_k hR 64 rfl) (by decide) rfl mf_X12_lookOf tw_1873 (Nat.le_of_ble_eq_true rfl) (Nat.le_of_ble_eq_true rfl) hl.1 (Nat.le_of_ble_eq_true rfl) dX12_likeAt_27 ⟨Nat.le_refl _, Nat.le_refl _⟩ (fun H locs hR hS => ?_)
        refine lv_aload_n hx hb dX12_likeAt_30 rfl (lv_at hl 0 rfl) ?_
        refine lv_iload_n hx hb dX12_likeAt_31 rfl (lv_at hl 1 rfl) ?_
        refine lv_iload_n hx hb dX12_likeAt_32 rfl (lv_at hl 2 rfl) ?_
        refine lv_iload hx hb dX12_likeAt_33 (lv_at hl 4 rfl) ?_
        refine lv_iadd hx hb dX12_likeAt_35 ?_
        obtain ⟨v_2, ev_2, hf⟩ := x_bd hf
        refine x_cVi2 C hR hS (S_X12_lookOf  ev_2) (x_k hR 64 rfl) (by decide) rfl mf_X12_lookOf tw_1873 (Nat.le_of_ble_eq_true rfl) (Nat.le_of_ble_eq_true rfl) hl.1 (Nat.le_of_ble_eq_true rfl) dX12_likeAt_36 ⟨Nat.le_refl _, Nat.le_refl _⟩ (fun H locs hR hS => ?_)
        have kM3 : ∀ (ls : Array Slot) (H : Heap) (locs : List Loc), lv_has ls 7 [(0, .ref (oX O + 64)), (1, .int v1), (2, .int v2), (3, .int v3), (4, .int v4), (6, .int v6)] → x_R O K h H → va_S (oA O) s.heap H locs → W p l e (x_rm 1 22) s m args below meth c H locs 0 0 (MQ below (x_Qc O K h (some (.int r))) args s 0 0 (oA O)) (F0 m 47 ls [.int (if v_1 = v_2 then 1 else 0), .int v5]) := by
          intro ls H locs hl hR hS
          refine lv_iadd hx hb dX12_likeAt_47 ?_
          obtain ⟨t4, et4, hf⟩ := x_lt hf
          refine x_nmi et4 ?_
          refine lv_istore (lv' := [(5, _), (0, _), (1, _), (2, _), (3, _), (4, _), (6, _)]) hx hb dX12_likeAt_48 hl (Nat.le_of_ble_eq_true rfl) rfl (fun ls hl => ?_)
          refine lv_iinc (k := 6) (v := _ + 1) (lv' := [(6, _), (5, _), (0, _), (1, _), (2, _), (3, _), (4, _)]) hx hb dX12_likeAt_50 hl rfl (x_inc 1 1 rfl _) (Nat.le_of_ble_eq_true rfl) rfl (fun ls hl => ?_)
          refine lv_goto (tgt := 6) hx hb dX12_likeAt_53 rfl ?_
          exact ih ls _ _ _ _ _ _ _ _  (lv_sub hl [2, 3, 4, 5, 6, 1, 0] rfl) hR hS hf
        refine lv_icmp_ne (tgt := 46) hx hb dX12_likeAt_39 rfl (fun hc => ?_) (fun hc => ?_)
        · try simp only [if_neg hc] at kM3
          refine lv_iconst (v := 0) hx hb dX12_likeAt_46 rfl ?_
          exact kM3 ls _ _ (lv_sub hl [0, 1, 2, 3, 4, 6] rfl) hR hS
        · try simp only [if_pos hc] at kM3
          refine lv_iconst (v := 1) hx hb dX12_likeAt_42 rfl ?_
          refine lv_goto (tgt := 47) hx hb dX12_likeAt_43 rfl ?_
          exact kM3 ls _ _ (lv_sub hl [0, 1, 2, 3, 4, 6] rfl) hR hS
set_option maxRecDepth 20000 in
theorem S_X12_likeAt {l : Launch} {O : XO} {K : XK} {h : XH} {v1 : Int32} {v2 : Int32} {v3 : Int32} {v4 : Int32}  {r : Int32}  (hf : f_X12_likeAt (oX O) h v1 v2 v3 v4 = some r) : x_M l O K yX12_likeAt cX12_likeAt 7 (some .int) 1 22 h [.ref (oX O + 64), .int v1, .int v2, .int v3, .int v4] (some (.int r)) h := by
  refine x_enter (by decide) (Nat.le_of_ble_eq_true rfl) (fun p e s m args below meth c C hR ls hl => ?_)
  have hS : va_S (oA O) s.heap s.heap [] := va_S.rf
  have hx := C.1
  have hb := C.2.1
  have hl : lv_has ls 7 [(0, .ref (oX O + 64)), (1, .int v1), (2, .int v2), (3, .int v3), (4, .int v4)] := hl
  rw [f_X12_likeAt] at hf
  refine lv_iconst (v := 0) hx hb dX12_likeAt_0 rfl ?_
  refine lv_istore (lv' := [(5, _), (0, _), (1, _), (2, _), (3, _), (4, _)]) hx hb dX12_likeAt_1 hl (Nat.le_of_ble_eq_true rfl) rfl (fun ls hl => ?_)
  refine lv_iconst (v := 0) hx hb dX12_likeAt_3 rfl ?_
  refine lv_istore (lv' := [(6, _), (5, _), (0, _), (1, _), (2, _), (3, _), (4, _)]) hx hb dX12_likeAt_4 hl (Nat.le_of_ble_eq_true rfl) rfl (fun ls hl => ?_)
  exact B_X12_likeAt_6  C  x_FU ls _ _ _ _ _ _ _ _  (lv_sub hl [2, 3, 4, 5, 6, 1, 0] rfl) hR hS hf
def f_X12_supposes (x : Nat) (h : XH) (v1 : Int32) (v2 : Int32) (v3 : Int32) (v4 : Int32) (v5 : Int32) (v6 : Int32) (v7 : Int32) (v8 : Int32) (v9 : Int32) : Option (XH) := if v5 = 0 then none else Option.bind (f_X12_of x h v1 2) (fun v_2 => Option.bind (f_X12_placesFor h v_2 v5) (fun v_3 => if x_b 0 10 = true then x_let (x_i h (x + 69) (0 : Int32).toNatClampNeg v6) (fun h5 => if v5 = 0 then none else if x_b 7 10 = true then x_let (x_i h5 (x + 69) (7 : Int32).toNatClampNeg (x_rem v2 v5)) (fun h8 => Option.bind (f_X12_cardOf x h8 v1 v2) (fun v_9 => if v5 = 0 then none else Option.bind (f_X12_dullOf x h8 v_9 (x_rem v2 v5)) (fun v_11 => if x_b 1 10 = true then x_let (x_i h8 (x + 69) (1 : Int32).toNatClampNeg v_11) (fun h13 => Option.bind (f_X12_oldAt x h13 v1 v3 (v4 + (v2 / v5)) v9) (fun v_14 => if x_b 2 10 = true then x_let (x_i h13 (x + 69) (2 : Int32).toNatClampNeg v_14) (fun h16 => Option.bind (f_X12_likeAt x h16 v3 v4 v_3 (v2 / v5)) (fun v_17 => if x_b 3 10 = true then x_let (x_i h16 (x + 69) (3 : Int32).toNatClampNeg v_17) (fun h19 => if x_b 4 10 = true then x_let (x_i h19 (x + 69) (4 : Int32).toNatClampNeg v7) (fun h21 => if x_b 5 10 = true then x_let (x_i h21 (x + 69) (5 : Int32).toNatClampNeg v8) (fun h23 => if x_b 6 10 = true then x_let (x_i h23 (x + 69) (6 : Int32).toNatClampNeg v5) (fun h25 => if x_b 8 10 = true then x_let (x_i h25 (x + 69) (8 : Int32).toNatClampNeg (if (v2 / v5) = 0 then 1 else 0)) (fun h28 => if x_b 9 10 = true then x_let (x_i h28 (x + 69) (9 : Int32).toNatClampNeg (if (v2 / v5) = (v_3 - 1) then 1 else 0)) (fun h31 => some h31) else none) else none) else none) else none) else none) else none)) else none)) else none))) else none) else none))
set_option maxRecDepth 20000 in
theorem S_X12_supposes {l : Launch} {O : XO} {K : XK} {h : XH} {v1 : Int32} {v2 : Int32} {v3 : Int32} {v4 : Int32} {v5 : Int32} {v6 : Int32} {v7 : Int32} {v8 : Int32} {v9 : Int32}  {h' : XH}  (hf : f_X12_supposes (oX O) h v1 v2 v3 v4 v5 v6 v7 v8 v9 = some h') : x_M l O K yX12_supposes cX12_supposes 12 none 4 93 h [.ref (oX O + 64), .int v1, .int v2, .int v3, .int v4, .int v5, .int v6, .int v7, .int v8, .int v9] none h' := by
  refine x_enter (by decide) (Nat.le_of_ble_eq_true rfl) (fun p e s m args below meth c C hR ls hl => ?_)
  have hS : va_S (oA O) s.heap s.heap [] := va_S.rf
  have hx := C.1
  have hb := C.2.1
  have hl : lv_has ls 12 [(0, .ref (oX O + 64)), (1, .int v1), (2, .int v2), (3, .int v3), (4, .int v4), (5, .int v5), (6, .int v6), (7, .int v7), (8, .int v8), (9, .int v9)] := hl
  rw [f_X12_supposes] at hf
  refine lv_iload_n hx hb dX12_supposes_0 rfl (lv_at hl 2 rfl) ?_
  refine lv_iload hx hb dX12_supposes_1 (lv_at hl 5 rfl) ?_
  obtain ⟨g1, hf⟩ := x_gn hf
  refine lv_idiv hx hb dX12_supposes_3 g1 ?_
  refine lv_istore (lv' := [(10, _), (0, _), (1, _), (2, _), (3, _), (4, _), (5, _), (6, _), (7, _), (8, _), (9, _)]) hx hb dX12_supposes_4 hl (Nat.le_of_ble_eq_true rfl) rfl (fun ls hl => ?_)
  refine lv_aload_n hx hb dX12_supposes_6 rfl (lv_at hl 1 rfl) ?_
  refine lv_iload_n hx hb dX12_supposes_7 rfl (lv_at hl 2 rfl) ?_
  refine lv_iconst (v := 2) hx hb dX12_supposes_8 rfl ?_
  obtain ⟨v_2, ev_2, hf⟩ := x_bd hf
  refine x_cVi2 C hR hS (S_X12_of  ev_2) (x_k hR 64 rfl) (by decide) rfl mf_X12_of tw_1806 (Nat.le_of_ble_eq_true rfl) (Nat.le_of_ble_eq_true rfl) hl.1 (Nat.le_of_ble_eq_true rfl) dX12_supposes_9 ⟨Nat.le_refl _, Nat.le_refl _⟩ (fun H locs hR hS => ?_)
  refine lv_iload hx hb dX12_supposes_12 (lv_at hl 6 rfl) ?_
  obtain ⟨v_3, ev_3, hf⟩ := x_bd hf
  refine x_cSi2 C hR hS (S_X12_placesFor  ev_3) mf_X12_placesFor tw_1825 (Nat.le_of_ble_eq_true rfl) (Nat.le_of_ble_eq_true rfl) hl.1 (Nat.le_of_ble_eq_true rfl) dX12_supposes_14 ⟨Nat.le_refl _, Nat.le_refl _⟩ (fun H locs hR hS => ?_)
  refine lv_istore (lv' := [(11, _), (10, _), (0, _), (1, _), (2, _), (3, _), (4, _), (5, _), (6, _), (7, _), (8, _), (9, _)]) hx hb dX12_supposes_17 hl (Nat.le_of_ble_eq_true rfl) rfl (fun ls hl => ?_)
  refine lv_aload_n hx hb dX12_supposes_19 rfl (lv_at hl 2 rfl) ?_
  refine gf_12_14 C hR (x_k hR 64 rfl) tw_1557 dX12_supposes_20 ?_
  refine lv_iconst (v := 0) hx hb dX12_supposes_23 rfl ?_
  refine lv_iload hx hb dX12_supposes_24 (lv_at hl 8 rfl) ?_
  obtain ⟨g4, hf⟩ := x_gd hf
  obtain ⟨h5, eh5, hf⟩ := x_lt hf
  refine x_iast C hR hS (x_k1 (x_k hR 69 rfl)) (x_k2 (x_k hR 69 rfl) g4) dX12_supposes_26 (fun H locs hR hS => ?_)
  rw [← eh5] at hR
  refine lv_aload_n hx hb dX12_supposes_27 rfl (lv_at hl 2 rfl) ?_
  refine gf_12_14 C hR (x_k hR 64 rfl) tw_1557 dX12_supposes_28 ?_
  refine lv_bipush (v := 7) hx hb dX12_supposes_31 rfl ?_
  refine lv_iload_n hx hb dX12_supposes_33 rfl (lv_at hl 4 rfl) ?_
  refine lv_iload hx hb dX12_supposes_34 (lv_at hl 7 rfl) ?_
  obtain ⟨g6, hf⟩ := x_gn hf
  refine lv_irem hx hb dX12_supposes_36 g6 ?_
  obtain ⟨g7, hf⟩ := x_gd hf
  obtain ⟨h8, eh8, hf⟩ := x_lt hf
  refine x_iast C hR hS (x_k1 (x_k hR 69 rfl)) (x_k2 (x_k hR 69 rfl) g7) dX12_supposes_37 (fun H locs hR hS => ?_)
  rw [← eh8] at hR
  refine lv_aload_n hx hb dX12_supposes_38 rfl (lv_at hl 2 rfl) ?_
  refine gf_12_14 C hR (x_k hR 64 rfl) tw_1557 dX12_supposes_39 ?_
  refine lv_iconst (v := 1) hx hb dX12_supposes_42 rfl ?_
  refine lv_aload_n hx hb dX12_supposes_43 rfl (lv_at hl 2 rfl) ?_
  refine lv_aload_n hx hb dX12_supposes_44 rfl (lv_at hl 2 rfl) ?_
  refine lv_iload_n hx hb dX12_supposes_45 rfl (lv_at hl 3 rfl) ?_
  refine lv_iload_n hx hb dX12_supposes_46 rfl (lv_at hl 4 rfl) ?_
  obtain ⟨v_9, ev_9, hf⟩ := x_bd hf
  refine x_cVi2 C hR hS (S_X12_cardOf  ev_9) (x_k hR 64 rfl) (by decide) rfl mf_X12_cardOf tw_1810 (Nat.le_of_ble_eq_true rfl) (Nat.le_of_ble_eq_true rfl) hl.1 (Nat.le_of_ble_eq_true rfl) dX12_supposes_47 ⟨Nat.le_refl _, Nat.le_refl _⟩ (fun H locs hR hS => ?_)
  refine lv_iload_n hx hb dX12_supposes_50 rfl (lv_at hl 4 rfl) ?_
  refine lv_iload hx hb dX12_supposes_51 (lv_at hl 7 rfl) ?_
  obtain ⟨g10, hf⟩ := x_gn hf
  refine lv_irem hx hb dX12_supposes_53 g10 ?_
  obtain ⟨v_11, ev_11, hf⟩ := x_bd hf
  refine x_cVi2 C hR hS (S_X12_dullOf  ev_11) (x_k hR 64 rfl) (by decide) rfl mf_X12_dullOf tw_1762 (Nat.le_of_ble_eq_true rfl) (Nat.le_of_ble_eq_true rfl) hl.1 (Nat.le_of_ble_eq_true rfl) dX12_supposes_54 ⟨Nat.le_refl _, Nat.le_refl _⟩ (fun H locs hR hS => ?_)
  obtain ⟨g12, hf⟩ := x_gd hf
  obtain ⟨h13, eh13, hf⟩ := x_lt hf
  refine x_iast C hR hS (x_k1 (x_k hR 69 rfl)) (x_k2 (x_k hR 69 rfl) g12) dX12_supposes_57 (fun H locs hR hS => ?_)
  rw [← eh13] at hR
  refine lv_aload_n hx hb dX12_supposes_58 rfl (lv_at hl 2 rfl) ?_
  refine gf_12_14 C hR (x_k hR 64 rfl) tw_1557 dX12_supposes_59 ?_
  refine lv_iconst (v := 2) hx hb dX12_supposes_62 rfl ?_
  refine lv_aload_n hx hb dX12_supposes_63 rfl (lv_at hl 2 rfl) ?_
  refine lv_iload_n hx hb dX12_supposes_64 rfl (lv_at hl 3 rfl) ?_
  refine lv_iload_n hx hb dX12_supposes_65 rfl (lv_at hl 5 rfl) ?_
  refine lv_iload hx hb dX12_supposes_66 (lv_at hl 6 rfl) ?_
  refine lv_iload hx hb dX12_supposes_68 (lv_at hl 1 rfl) ?_
  refine lv_iadd hx hb dX12_supposes_70 ?_
  refine lv_iload hx hb dX12_supposes_71 (lv_at hl 11 rfl) ?_
  obtain ⟨v_14, ev_14, hf⟩ := x_bd hf
  refine x_cVi4 C hR hS (S_X12_oldAt  ev_14) (x_k hR 64 rfl) (by decide) rfl mf_X12_oldAt tw_1861 (Nat.le_of_ble_eq_true rfl) (Nat.le_of_ble_eq_true rfl) hl.1 (Nat.le_of_ble_eq_true rfl) dX12_supposes_73 ⟨Nat.le_refl _, Nat.le_refl _⟩ (fun H locs hR hS => ?_)
  obtain ⟨g15, hf⟩ := x_gd hf
  obtain ⟨h16, eh16, hf⟩ := x_lt hf
  refine x_iast C hR hS (x_k1 (x_k hR 69 rfl)) (x_k2 (x_k hR 69 rfl) g15) dX12_supposes_76 (fun H locs hR hS => ?_)
  rw [← eh16] at hR
  refine lv_aload_n hx hb dX12_supposes_77 rfl (lv_at hl 2 rfl) ?_
  refine gf_12_14 C hR (x_k hR 64 rfl) tw_1557 dX12_supposes_78 ?_
  refine lv_iconst (v := 3) hx hb dX12_supposes_81 rfl ?_
  refine lv_aload_n hx hb dX12_supposes_82 rfl (lv_at hl 2 rfl) ?_
  refine lv_iload_n hx hb dX12_supposes_83 rfl (lv_at hl 5 rfl) ?_
  refine lv_iload hx hb dX12_supposes_84 (lv_at hl 6 rfl) ?_
  refine lv_iload hx hb dX12_supposes_86 (lv_at hl 0 rfl) ?_
  refine lv_iload hx hb dX12_supposes_88 (lv_at hl 1 rfl) ?_
  obtain ⟨v_17, ev_17, hf⟩ := x_bd hf
  refine x_cVi4 C hR hS (S_X12_likeAt  ev_17) (x_k hR 64 rfl) (by decide) rfl mf_X12_likeAt tw_1869 (Nat.le_of_ble_eq_true rfl) (Nat.le_of_ble_eq_true rfl) hl.1 (Nat.le_of_ble_eq_true rfl) dX12_supposes_90 ⟨Nat.le_refl _, Nat.le_refl _⟩ (fun H locs hR hS => ?_)
  obtain ⟨g18, hf⟩ := x_gd hf
  obtain ⟨h19, eh19, hf⟩ := x_lt hf
  refine x_iast C hR hS (x_k1 (x_k hR 69 rfl)) (x_k2 (x_k hR 69 rfl) g18) dX12_supposes_93 (fun H locs hR hS => ?_)
  rw [← eh19] at hR
  refine lv_aload_n hx hb dX12_supposes_94 rfl (lv_at hl 2 rfl) ?_
  refine gf_12_14 C hR (x_k hR 64 rfl) tw_1557 dX12_supposes_95 ?_
  refine lv_iconst (v := 4) hx hb dX12_supposes_98 rfl ?_
  refine lv_iload hx hb dX12_supposes_99 (lv_at hl 9 rfl) ?_
  obtain ⟨g20, hf⟩ := x_gd hf
  obtain ⟨h21, eh21, hf⟩ := x_lt hf
  refine x_iast C hR hS (x_k1 (x_k hR 69 rfl)) (x_k2 (x_k hR 69 rfl) g20) dX12_supposes_101 (fun H locs hR hS => ?_)
  rw [← eh21] at hR
  refine lv_aload_n hx hb dX12_supposes_102 rfl (lv_at hl 2 rfl) ?_
  refine gf_12_14 C hR (x_k hR 64 rfl) tw_1557 dX12_supposes_103 ?_
  refine lv_iconst (v := 5) hx hb dX12_supposes_106 rfl ?_
  refine lv_iload hx hb dX12_supposes_107 (lv_at hl 10 rfl) ?_
  obtain ⟨g22, hf⟩ := x_gd hf
  obtain ⟨h23, eh23, hf⟩ := x_lt hf
  refine x_iast C hR hS (x_k1 (x_k hR 69 rfl)) (x_k2 (x_k hR 69 rfl) g22) dX12_supposes_109 (fun H locs hR hS => ?_)
  rw [← eh23] at hR
  refine lv_aload_n hx hb dX12_supposes_110 rfl (lv_at hl 2 rfl) ?_
  refine gf_12_14 C hR (x_k hR 64 rfl) tw_1557 dX12_supposes_111 ?_
  refine lv_bipush (v := 6) hx hb dX12_supposes_114 rfl ?_
  refine lv_iload hx hb dX12_supposes_116 (lv_at hl 7 rfl) ?_
  obtain ⟨g24, hf⟩ := x_gd hf
  obtain ⟨h25, eh25, hf⟩ := x_lt hf
  refine x_iast C hR hS (x_k1 (x_k hR 69 rfl)) (x_k2 (x_k hR 69 rfl) g24) dX12_supposes_118 (fun H locs hR hS => ?_)
  rw [← eh25] at hR
  refine lv_aload_n hx hb dX12_supposes_119 rfl (lv_at hl 2 rfl) ?_
  refine gf_12_14 C hR (x_k hR 64 rfl) tw_1557 dX12_supposes_120 ?_
  refine lv_bipush (v := 8) hx hb dX12_supposes_123 rfl ?_
  refine lv_iload hx hb dX12_supposes_125 (lv_at hl 1 rfl) ?_
  have kM26 : ∀ (ls : Array Slot) (H : Heap) (locs : List Loc), lv_has ls 12 [(0, .ref (oX O + 64)), (10, .int (v2 / v5)), (11, .int v_3)] → x_R O K h25 H → va_S (oA O) s.heap H locs → W p l e (x_rm 4 93) s m args below meth c H locs 0 0 (MQ below (x_Qc O K h' none) args s 0 0 (oA O)) (F0 m 135 ls [.int (if (v2 / v5) = 0 then 1 else 0), .int 8, .ref (oX O + 69)]) := by
    intro ls H locs hl hR hS
    obtain ⟨g27, hf⟩ := x_gd hf
    obtain ⟨h28, eh28, hf⟩ := x_lt hf
    refine x_iast C hR hS (x_k1 (x_k hR 69 rfl)) (x_k2 (x_k hR 69 rfl) g27) dX12_supposes_135 (fun H locs hR hS => ?_)
    rw [← eh28] at hR
    refine lv_aload_n hx hb dX12_supposes_136 rfl (lv_at hl 0 rfl) ?_
    refine gf_12_14 C hR (x_k hR 64 rfl) tw_1557 dX12_supposes_137 ?_
    refine lv_bipush (v := 9) hx hb dX12_supposes_140 rfl ?_
    refine lv_iload hx hb dX12_supposes_142 (lv_at hl 1 rfl) ?_
    refine lv_iload hx hb dX12_supposes_144 (lv_at hl 2 rfl) ?_
    refine lv_iconst (v := 1) hx hb dX12_supposes_146 rfl ?_
    refine lv_isub hx hb dX12_supposes_147 ?_
    have kM29 : ∀ (ls : Array Slot) (H : Heap) (locs : List Loc), lv_has ls 12 [] → x_R O K h28 H → va_S (oA O) s.heap H locs → W p l e (x_rm 4 93) s m args below meth c H locs 0 0 (MQ below (x_Qc O K h' none) args s 0 0 (oA O)) (F0 m 156 ls [.int (if (v2 / v5) = (v_3 - 1) then 1 else 0), .int 9, .ref (oX O + 69)]) := by
      intro ls H locs hl hR hS
      obtain ⟨g30, hf⟩ := x_gd hf
      obtain ⟨h31, eh31, hf⟩ := x_lt hf
      refine x_iast C hR hS (x_k1 (x_k hR 69 rfl)) (x_k2 (x_k hR 69 rfl) g30) dX12_supposes_156 (fun H locs hR hS => ?_)
      rw [← eh31] at hR
      cases hf
      exact x_vret C hR hS dX12_supposes_157
    refine lv_icmp_ne (tgt := 155) hx hb dX12_supposes_148 rfl (fun hc => ?_) (fun hc => ?_)
    · try simp only [if_neg hc] at kM29
      refine lv_iconst (v := 0) hx hb dX12_supposes_155 rfl ?_
      exact kM29 ls _ _ (lv_sub hl [] rfl) hR hS
    · try simp only [if_pos hc] at kM29
      refine lv_iconst (v := 1) hx hb dX12_supposes_151 rfl ?_
      refine lv_goto (tgt := 156) hx hb dX12_supposes_152 rfl ?_
      exact kM29 ls _ _ (lv_sub hl [] rfl) hR hS
  refine lv_if_ne (tgt := 134) hx hb dX12_supposes_127 rfl (fun hc => ?_) (fun hc => ?_)
  · try simp only [if_neg hc] at kM26
    refine lv_iconst (v := 0) hx hb dX12_supposes_134 rfl ?_
    exact kM26 ls _ _ (lv_sub hl [2, 1, 0] rfl) hR hS
  · try simp only [if_pos hc] at kM26
    refine lv_iconst (v := 1) hx hb dX12_supposes_130 rfl ?_
    refine lv_goto (tgt := 135) hx hb dX12_supposes_131 rfl ?_
    exact kM26 ls _ _ (lv_sub hl [2, 1, 0] rfl) hR hS
def f_X12_ageOf (x : Nat) (h : XH) (v1 : Int32) (v2 : Int32) (v3 : Int32) : Option Int32 := Option.bind (f_X12_of x h v1 6) (fun v_1 => if v_1 = 0 then none else Option.bind (f_X12_of x h v1 (9 + (v2 / v_1))) (fun v_3 => some ((v3 - v_3) / 10)))
set_option maxRecDepth 20000 in
theorem S_X12_ageOf {l : Launch} {O : XO} {K : XK} {h : XH} {v1 : Int32} {v2 : Int32} {v3 : Int32}  {r : Int32}  (hf : f_X12_ageOf (oX O) h v1 v2 v3 = some r) : x_M l O K yX12_ageOf cX12_ageOf 4 (some .int) 1 22 h [.ref (oX O + 64), .int v1, .int v2, .int v3] (some (.int r)) h := by
  refine x_enter (by decide) (Nat.le_of_ble_eq_true rfl) (fun p e s m args below meth c C hR ls hl => ?_)
  have hS : va_S (oA O) s.heap s.heap [] := va_S.rf
  have hx := C.1
  have hb := C.2.1
  have hl : lv_has ls 4 [(0, .ref (oX O + 64)), (1, .int v1), (2, .int v2), (3, .int v3)] := hl
  rw [f_X12_ageOf] at hf
  refine lv_iload_n hx hb dX12_ageOf_0 rfl (lv_at hl 3 rfl) ?_
  refine lv_aload_n hx hb dX12_ageOf_1 rfl (lv_at hl 0 rfl) ?_
  refine lv_iload_n hx hb dX12_ageOf_2 rfl (lv_at hl 1 rfl) ?_
  refine lv_bipush (v := 9) hx hb dX12_ageOf_3 rfl ?_
  refine lv_iload_n hx hb dX12_ageOf_5 rfl (lv_at hl 2 rfl) ?_
  refine lv_aload_n hx hb dX12_ageOf_6 rfl (lv_at hl 0 rfl) ?_
  refine lv_iload_n hx hb dX12_ageOf_7 rfl (lv_at hl 1 rfl) ?_
  refine lv_bipush (v := 6) hx hb dX12_ageOf_8 rfl ?_
  obtain ⟨v_1, ev_1, hf⟩ := x_bd hf
  refine x_cVi2 C hR hS (S_X12_of  ev_1) (x_k hR 64 rfl) (by decide) rfl mf_X12_of tw_1806 (Nat.le_of_ble_eq_true rfl) (Nat.le_of_ble_eq_true rfl) hl.1 (Nat.le_of_ble_eq_true rfl) dX12_ageOf_10 ⟨Nat.le_refl _, Nat.le_refl _⟩ (fun H locs hR hS => ?_)
  obtain ⟨g2, hf⟩ := x_gn hf
  refine lv_idiv hx hb dX12_ageOf_13 g2 ?_
  refine lv_iadd hx hb dX12_ageOf_14 ?_
  obtain ⟨v_3, ev_3, hf⟩ := x_bd hf
  refine x_cVi2 C hR hS (S_X12_of  ev_3) (x_k hR 64 rfl) (by decide) rfl mf_X12_of tw_1806 (Nat.le_of_ble_eq_true rfl) (Nat.le_of_ble_eq_true rfl) hl.1 (Nat.le_of_ble_eq_true rfl) dX12_ageOf_15 ⟨Nat.le_refl _, Nat.le_refl _⟩ (fun H locs hR hS => ?_)
  refine lv_isub hx hb dX12_ageOf_18 ?_
  refine lv_bipush (v := 10) hx hb dX12_ageOf_19 rfl ?_
  refine lv_idiv hx hb dX12_ageOf_21 (by decide) ?_
  cases hf
  exact x_iret C hR hS dX12_ageOf_22
def f_X12_asks (x : Nat) (h : XH) (v1 : Int32) (v2 : Int32) (v3 : Int32) (v4 : Int32) : Option (XH) := Option.bind (f_X12_of x h v1 4) (fun v_1 => Option.bind (f_X12_of x h v1 5) (fun v_2 => Option.bind (f_X12_of x h v1 6) (fun v_3 => Option.bind (f_X12_of x h v1 7) (fun v_4 => Option.bind (f_X12_of x h v1 3) (fun v_5 => Option.bind (f_X12_supposes x h v1 v2 v_1 v_2 v_3 v_4 v3 v4 v_5) (fun h6 => some h6))))))
set_option maxRecDepth 20000 in
theorem S_X12_asks {l : Launch} {O : XO} {K : XK} {h : XH} {v1 : Int32} {v2 : Int32} {v3 : Int32} {v4 : Int32}  {h' : XH}  (hf : f_X12_asks (oX O) h v1 v2 v3 v4 = some h') : x_M l O K yX12_asks cX12_asks 5 none 5 124 h [.ref (oX O + 64), .int v1, .int v2, .int v3, .int v4] none h' := by
  refine x_enter (by decide) (Nat.le_of_ble_eq_true rfl) (fun p e s m args below meth c C hR ls hl => ?_)
  have hS : va_S (oA O) s.heap s.heap [] := va_S.rf
  have hx := C.1
  have hb := C.2.1
  have hl : lv_has ls 5 [(0, .ref (oX O + 64)), (1, .int v1), (2, .int v2), (3, .int v3), (4, .int v4)] := hl
  rw [f_X12_asks] at hf
  refine lv_aload_n hx hb dX12_asks_0 rfl (lv_at hl 0 rfl) ?_
  refine lv_iload_n hx hb dX12_asks_1 rfl (lv_at hl 1 rfl) ?_
  refine lv_iload_n hx hb dX12_asks_2 rfl (lv_at hl 2 rfl) ?_
  refine lv_aload_n hx hb dX12_asks_3 rfl (lv_at hl 0 rfl) ?_
  refine lv_iload_n hx hb dX12_asks_4 rfl (lv_at hl 1 rfl) ?_
  refine lv_iconst (v := 4) hx hb dX12_asks_5 rfl ?_
  obtain ⟨v_1, ev_1, hf⟩ := x_bd hf
  refine x_cVi2 C hR hS (S_X12_of  ev_1) (x_k hR 64 rfl) (by decide) rfl mf_X12_of tw_1806 (Nat.le_of_ble_eq_true rfl) (Nat.le_of_ble_eq_true rfl) hl.1 (Nat.le_of_ble_eq_true rfl) dX12_asks_6 ⟨Nat.le_refl _, Nat.le_refl _⟩ (fun H locs hR hS => ?_)
  refine lv_aload_n hx hb dX12_asks_9 rfl (lv_at hl 0 rfl) ?_
  refine lv_iload_n hx hb dX12_asks_10 rfl (lv_at hl 1 rfl) ?_
  refine lv_iconst (v := 5) hx hb dX12_asks_11 rfl ?_
  obtain ⟨v_2, ev_2, hf⟩ := x_bd hf
  refine x_cVi2 C hR hS (S_X12_of  ev_2) (x_k hR 64 rfl) (by decide) rfl mf_X12_of tw_1806 (Nat.le_of_ble_eq_true rfl) (Nat.le_of_ble_eq_true rfl) hl.1 (Nat.le_of_ble_eq_true rfl) dX12_asks_12 ⟨Nat.le_refl _, Nat.le_refl _⟩ (fun H locs hR hS => ?_)
  refine lv_aload_n hx hb dX12_asks_15 rfl (lv_at hl 0 rfl) ?_
  refine lv_iload_n hx hb dX12_asks_16 rfl (lv_at hl 1 rfl) ?_
  refine lv_bipush (v := 6) hx hb dX12_asks_17 rfl ?_
  obtain ⟨v_3, ev_3, hf⟩ := x_bd hf
  refine x_cVi2 C hR hS (S_X12_of  ev_3) (x_k hR 64 rfl) (by decide) rfl mf_X12_of tw_1806 (Nat.le_of_ble_eq_true rfl) (Nat.le_of_ble_eq_true rfl) hl.1 (Nat.le_of_ble_eq_true rfl) dX12_asks_19 ⟨Nat.le_refl _, Nat.le_refl _⟩ (fun H locs hR hS => ?_)
  refine lv_aload_n hx hb dX12_asks_22 rfl (lv_at hl 0 rfl) ?_
  refine lv_iload_n hx hb dX12_asks_23 rfl (lv_at hl 1 rfl) ?_
  refine lv_bipush (v := 7) hx hb dX12_asks_24 rfl ?_
  obtain ⟨v_4, ev_4, hf⟩ := x_bd hf
  refine x_cVi2 C hR hS (S_X12_of  ev_4) (x_k hR 64 rfl) (by decide) rfl mf_X12_of tw_1806 (Nat.le_of_ble_eq_true rfl) (Nat.le_of_ble_eq_true rfl) hl.1 (Nat.le_of_ble_eq_true rfl) dX12_asks_26 ⟨Nat.le_refl _, Nat.le_refl _⟩ (fun H locs hR hS => ?_)
  refine lv_iload_n hx hb dX12_asks_29 rfl (lv_at hl 3 rfl) ?_
  refine lv_iload hx hb dX12_asks_30 (lv_at hl 4 rfl) ?_
  refine lv_aload_n hx hb dX12_asks_32 rfl (lv_at hl 0 rfl) ?_
  refine lv_iload_n hx hb dX12_asks_33 rfl (lv_at hl 1 rfl) ?_
  refine lv_iconst (v := 3) hx hb dX12_asks_34 rfl ?_
  obtain ⟨v_5, ev_5, hf⟩ := x_bd hf
  refine x_cVi2w C hR hS (S_X12_of  ev_5) (x_k hR 64 rfl) (by decide) rfl mf_X12_of tw_1806 (Nat.le_of_ble_eq_true rfl) (Nat.le_of_ble_eq_true rfl) hl.1 (Nat.le_of_ble_eq_true rfl) dX12_asks_35 ⟨Nat.le_refl _, Nat.le_refl _⟩ (fun H locs hR hS => ?_)
  obtain ⟨h6, eh6, hf⟩ := x_bd hf
  refine x_cVv9 C hR hS (S_X12_supposes  eh6) (x_k hR 64 rfl) (by decide) rfl mf_X12_supposes tw_1857 (Nat.le_of_ble_eq_true rfl) (Nat.le_of_ble_eq_true rfl) hl.1 (Nat.le_of_ble_eq_true rfl) dX12_asks_38 ⟨Nat.le_refl _, Nat.le_refl _⟩ (fun H locs hR hS => ?_)
  cases hf
  exact x_vret C hR hS dX12_asks_41
def f_X12_about_63 (x : Nat) (h : XH) : Option (Int32 × XH) := some (0, h)
def f_X12_about (x : Nat) (h : XH) (v1 : Int32) (v2 : Int32) (v3 : Int32) : Option (Int32 × XH) := x_let (x_i h (x + 64) 0 0) (fun h1 => Option.bind (f_X12_noPlace x h1 v1 v2) (fun v_2 => Option.bind (f_X12_throwsIf x h1 v_2 1) (fun q3 => if q3.1 = 0 then Option.bind (f_X12_isPut x q3.2 v1) (fun v_4 => Option.bind (f_X12_throwsIf x q3.2 (if v_4 = 0 then 1 else 0) 2) (fun q6 => if q6.1 = 0 then Option.bind (f_X12_throwsIf x q6.2 (if (f_X12_in q6.2 v3 0 7) = 0 then 1 else 0) 3) (fun q8 => if q8.1 = 0 then Option.bind (f_X12_of x q8.2 v1 6) (fun v_9 => if v_9 = 0 then none else if x_b 6 6927 = true then Option.bind (f_X12_ageOf x q8.2 v1 v2 (q8.2.1 (x + 65) (6 : Int32).toNatClampNeg)) (fun v_12 => Option.bind (f_X12_asks x q8.2 v1 v2 v_12 0) (fun h13 => if v3 = 0 then some ((v2 / v_9), h13) else if v3 = 1 then Option.bind (f_X12_of x h13 v1 5) (fun v_14 => some ((v_14 + (v2 / v_9)), h13)) else if v3 = 2 then if x_b 7 10 = true then some ((h13.1 (x + 69) (7 : Int32).toNatClampNeg), h13) else none else if v3 = 3 then if x_b 4 10 = true then some ((h13.1 (x + 69) (4 : Int32).toNatClampNeg), h13) else none else if v3 = 4 then if x_b 2 10 = true then some ((h13.1 (x + 69) (2 : Int32).toNatClampNeg), h13) else none else if v3 = 5 then if x_b 3 10 = true then some ((h13.1 (x + 69) (3 : Int32).toNatClampNeg), h13) else none else if v3 = 6 then if x_b 1 10 = true then some ((h13.1 (x + 69) (1 : Int32).toNatClampNeg), h13) else none else Option.bind (f_X12_of x h13 v1 (29 + v2)) (fun v_20 => some (v_20, h13)))) else none) else f_X12_about_63 x q8.2) else f_X12_about_63 x q6.2)) else f_X12_about_63 x q3.2)))
set_option maxRecDepth 20000 in
theorem B_X12_about_63 {p : Program} {l : Launch} {e : Env} {s : State} {m : MethodId} {args : Array Value} {below : List Frame} {meth : Method} {c : Code} {O : XO} {K : XK} {r : Int32} {h' : XH}   (C : x_C p s m args meth c O cX12_about 5 RX12 (some .int))   (ls : Array Slot) (H : Heap) (locs : List Loc) (h : XH) (hl : lv_has ls 5 []) (hR : x_R O K h H) (hS : va_S (oA O) s.heap H locs) (hf : f_X12_about_63 (oX O) h = some (r, h')) : W p l e (x_rm 6 148) s m args below meth c H locs 0 0 (MQ below (x_Qc O K h' (some (.int r))) args s 0 0 (oA O)) (F0 m 63 ls []) := by
  have hx := C.1
  have hb := C.2.1
  rw [f_X12_about_63] at hf
  refine lv_iconst (v := 0) hx hb dX12_about_63 rfl ?_
  cases hf
  exact x_iret C hR hS dX12_about_64
set_option maxRecDepth 20000 in
theorem S_X12_about {l : Launch} {O : XO} {K : XK} {h : XH} {v1 : Int32} {v2 : Int32} {v3 : Int32}  {r : Int32} {h' : XH}  (hf : f_X12_about (oX O) h v1 v2 v3 = some (r, h')) : x_M l O K yX12_about cX12_about 5 (some .int) 6 148 h [.ref (oX O + 64), .int v1, .int v2, .int v3] (some (.int r)) h' := by
  refine x_enter (by decide) (Nat.le_of_ble_eq_true rfl) (fun p e s m args below meth c C hR ls hl => ?_)
  have hS : va_S (oA O) s.heap s.heap [] := va_S.rf
  have hx := C.1
  have hb := C.2.1
  have hl : lv_has ls 5 [(0, .ref (oX O + 64)), (1, .int v1), (2, .int v2), (3, .int v3)] := hl
  rw [f_X12_about] at hf
  refine lv_aload_n hx hb dX12_about_0 rfl (lv_at hl 0 rfl) ?_
  refine lv_iconst (v := 0) hx hb dX12_about_1 rfl ?_
  obtain ⟨h1, eh1, hf⟩ := x_lt hf
  refine pf_12_0 C hR hS (x_k hR 64 rfl) tw_1543 dX12_about_2 (fun H locs hR hS => ?_)
  rw [← eh1] at hR
  refine lv_aload_n hx hb dX12_about_5 rfl (lv_at hl 0 rfl) ?_
  refine lv_aload_n hx hb dX12_about_6 rfl (lv_at hl 0 rfl) ?_
  refine lv_iload_n hx hb dX12_about_7 rfl (lv_at hl 1 rfl) ?_
  refine lv_iload_n hx hb dX12_about_8 rfl (lv_at hl 2 rfl) ?_
  obtain ⟨v_2, ev_2, hf⟩ := x_bd hf
  refine x_cVi2 C hR hS (S_X12_noPlace  ev_2) (x_k hR 64 rfl) (by decide) rfl mf_X12_noPlace tw_1798 (Nat.le_of_ble_eq_true rfl) (Nat.le_of_ble_eq_true rfl) hl.1 (Nat.le_of_ble_eq_true rfl) dX12_about_9 ⟨Nat.le_refl _, Nat.le_refl _⟩ (fun H locs hR hS => ?_)
  refine lv_iconst (v := 1) hx hb dX12_about_12 rfl ?_
  obtain ⟨q3, eq3, hf⟩ := x_bd hf
  refine x_cVi2 C hR hS (S_X12_throwsIf  eq3) (x_k hR 64 rfl) (by decide) rfl mf_X12_throwsIf tw_1741 (Nat.le_of_ble_eq_true rfl) (Nat.le_of_ble_eq_true rfl) hl.1 (Nat.le_of_ble_eq_true rfl) dX12_about_13 ⟨Nat.le_refl _, Nat.le_refl _⟩ (fun H locs hR hS => ?_)
  refine lv_if_ne (tgt := 63) hx hb dX12_about_16 rfl (fun hc => ?_) (fun hc => ?_)
  · have hf := x_in hc hf
    exact B_X12_about_63  C   ls _ _ q3.2  (lv_sub hl [] rfl) hR hS hf
  · have hf := x_ip hc hf
    refine lv_aload_n hx hb dX12_about_19 rfl (lv_at hl 0 rfl) ?_
    refine lv_aload_n hx hb dX12_about_20 rfl (lv_at hl 0 rfl) ?_
    refine lv_iload_n hx hb dX12_about_21 rfl (lv_at hl 1 rfl) ?_
    obtain ⟨v_4, ev_4, hf⟩ := x_bd hf
    refine x_cVi1 C hR hS (S_X12_isPut  ev_4) (x_k hR 64 rfl) (by decide) rfl mf_X12_isPut tw_1818 (Nat.le_of_ble_eq_true rfl) (Nat.le_of_ble_eq_true rfl) hl.1 (Nat.le_of_ble_eq_true rfl) dX12_about_22 ⟨Nat.le_refl _, Nat.le_refl _⟩ (fun H locs hR hS => ?_)
    have kM5 : ∀ (ls : Array Slot) (H : Heap) (locs : List Loc), lv_has ls 5 [(0, .ref (oX O + 64)), (1, .int v1), (2, .int v2), (3, .int v3)] → x_R O K q3.2 H → va_S (oA O) s.heap H locs → W p l e (x_rm 6 148) s m args below meth c H locs 0 0 (MQ below (x_Qc O K h' (some (.int r))) args s 0 0 (oA O)) (F0 m 33 ls [.int (if v_4 = 0 then 1 else 0), .ref (oX O + 64)]) := by
      intro ls H locs hl hR hS
      refine lv_iconst (v := 2) hx hb dX12_about_33 rfl ?_
      obtain ⟨q6, eq6, hf⟩ := x_bd hf
      refine x_cVi2 C hR hS (S_X12_throwsIf  eq6) (x_k hR 64 rfl) (by decide) rfl mf_X12_throwsIf tw_1741 (Nat.le_of_ble_eq_true rfl) (Nat.le_of_ble_eq_true rfl) hl.1 (Nat.le_of_ble_eq_true rfl) dX12_about_34 ⟨Nat.le_refl _, Nat.le_refl _⟩ (fun H locs hR hS => ?_)
      refine lv_if_ne (tgt := 63) hx hb dX12_about_37 rfl (fun hc => ?_) (fun hc => ?_)
      · have hf := x_in hc hf
        exact B_X12_about_63  C   ls _ _ q6.2  (lv_sub hl [] rfl) hR hS hf
      · have hf := x_ip hc hf
        refine lv_aload_n hx hb dX12_about_40 rfl (lv_at hl 0 rfl) ?_
        refine lv_iload_n hx hb dX12_about_41 rfl (lv_at hl 3 rfl) ?_
        refine lv_iconst (v := 0) hx hb dX12_about_42 rfl ?_
        refine lv_bipush (v := 7) hx hb dX12_about_43 rfl ?_
        refine x_cSi3 C hR hS (S_X12_in  rfl) mf_X12_in tw_1756 (Nat.le_of_ble_eq_true rfl) (Nat.le_of_ble_eq_true rfl) hl.1 (Nat.le_of_ble_eq_true rfl) dX12_about_45 ⟨Nat.le_refl _, Nat.le_refl _⟩ (fun H locs hR hS => ?_)
        have kM7 : ∀ (ls : Array Slot) (H : Heap) (locs : List Loc), lv_has ls 5 [(0, .ref (oX O + 64)), (1, .int v1), (2, .int v2), (3, .int v3)] → x_R O K q6.2 H → va_S (oA O) s.heap H locs → W p l e (x_rm 6 148) s m args below meth c H locs 0 0 (MQ below (x_Qc O K h' (some (.int r))) args s 0 0 (oA O)) (F0 m 56 ls [.int (if (f_X12_in q6.2 v3 0 7) = 0 then 1 else 0), .ref (oX O + 64)]) := by
          intro ls H locs hl hR hS
          refine lv_iconst (v := 3) hx hb dX12_about_56 rfl ?_
          obtain ⟨q8, eq8, hf⟩ := x_bd hf
          refine x_cVi2 C hR hS (S_X12_throwsIf  eq8) (x_k hR 64 rfl) (by decide) rfl mf_X12_throwsIf tw_1741 (Nat.le_of_ble_eq_true rfl) (Nat.le_of_ble_eq_true rfl) hl.1 (Nat.le_of_ble_eq_true rfl) dX12_about_57 ⟨Nat.le_refl _, Nat.le_refl _⟩ (fun H locs hR hS => ?_)
          refine lv_if_eq (tgt := 65) hx hb dX12_about_60 rfl (fun hc => ?_) (fun hc => ?_)
          · have hf := x_ip hc hf
            refine lv_iload_n hx hb dX12_about_65 rfl (lv_at hl 2 rfl) ?_
            refine lv_aload_n hx hb dX12_about_66 rfl (lv_at hl 0 rfl) ?_
            refine lv_iload_n hx hb dX12_about_67 rfl (lv_at hl 1 rfl) ?_
            refine lv_bipush (v := 6) hx hb dX12_about_68 rfl ?_
            obtain ⟨v_9, ev_9, hf⟩ := x_bd hf
            refine x_cVi2 C hR hS (S_X12_of  ev_9) (x_k hR 64 rfl) (by decide) rfl mf_X12_of tw_1806 (Nat.le_of_ble_eq_true rfl) (Nat.le_of_ble_eq_true rfl) hl.1 (Nat.le_of_ble_eq_true rfl) dX12_about_70 ⟨Nat.le_refl _, Nat.le_refl _⟩ (fun H locs hR hS => ?_)
            obtain ⟨g10, hf⟩ := x_gn hf
            refine lv_idiv hx hb dX12_about_73 g10 ?_
            refine lv_istore (lv' := [(4, _), (0, _), (1, _), (2, _), (3, _)]) hx hb dX12_about_74 hl (Nat.le_of_ble_eq_true rfl) rfl (fun ls hl => ?_)
            refine lv_aload_n hx hb dX12_about_76 rfl (lv_at hl 1 rfl) ?_
            refine lv_iload_n hx hb dX12_about_77 rfl (lv_at hl 2 rfl) ?_
            refine lv_iload_n hx hb dX12_about_78 rfl (lv_at hl 3 rfl) ?_
            refine lv_aload_n hx hb dX12_about_79 rfl (lv_at hl 1 rfl) ?_
            refine lv_iload_n hx hb dX12_about_80 rfl (lv_at hl 2 rfl) ?_
            refine lv_iload_n hx hb dX12_about_81 rfl (lv_at hl 3 rfl) ?_
            refine lv_aload_n hx hb dX12_about_82 rfl (lv_at hl 1 rfl) ?_
            refine gf_12_1 C hR (x_k hR 64 rfl) tw_1544 dX12_about_83 ?_
            refine lv_bipush (v := 6) hx hb dX12_about_86 rfl ?_
            obtain ⟨g11, hf⟩ := x_gd hf
            refine x_iald C hR (x_k1 (x_k hR 65 rfl)) (x_k2 (x_k hR 65 rfl) g11) dX12_about_88 ?_
            obtain ⟨v_12, ev_12, hf⟩ := x_bd hf
            refine x_cVi3 C hR hS (S_X12_ageOf  ev_12) (x_k hR 64 rfl) (by decide) rfl mf_X12_ageOf tw_1849 (Nat.le_of_ble_eq_true rfl) (Nat.le_of_ble_eq_true rfl) hl.1 (Nat.le_of_ble_eq_true rfl) dX12_about_89 ⟨Nat.le_refl _, Nat.le_refl _⟩ (fun H locs hR hS => ?_)
            refine lv_iconst (v := 0) hx hb dX12_about_92 rfl ?_
            obtain ⟨h13, eh13, hf⟩ := x_bd hf
            refine x_cVv4 C hR hS (S_X12_asks  eh13) (x_k hR 64 rfl) (by decide) rfl mf_X12_asks tw_1853 (Nat.le_of_ble_eq_true rfl) (Nat.le_of_ble_eq_true rfl) hl.1 (Nat.le_of_ble_eq_true rfl) dX12_about_93 ⟨Nat.le_refl _, Nat.le_refl _⟩ (fun H locs hR hS => ?_)
            refine lv_iload_n hx hb dX12_about_96 rfl (lv_at hl 4 rfl) ?_
            by_cases hc0 : v3 = 0
            · have hf := x_ip hc0 hf
              refine lv_tableIn (tgt := 140) hx hb dX12_about_97 (by rw [hc0]; decide) (by rw [hc0]; decide) (by rw [hc0] <;> rfl) rfl ?_
              refine lv_iload hx hb dX12_about_140 (lv_at hl 0 rfl) ?_
              cases hf
              exact x_iret C hR hS dX12_about_142
            · have hf := x_in hc0 hf
              by_cases hc1 : v3 = 1
              · have hf := x_ip hc1 hf
                refine lv_tableIn (tgt := 143) hx hb dX12_about_97 (by rw [hc1]; decide) (by rw [hc1]; decide) (by rw [hc1] <;> rfl) rfl ?_
                refine lv_aload_n hx hb dX12_about_143 rfl (lv_at hl 1 rfl) ?_
                refine lv_iload_n hx hb dX12_about_144 rfl (lv_at hl 2 rfl) ?_
                refine lv_iconst (v := 5) hx hb dX12_about_145 rfl ?_
                obtain ⟨v_14, ev_14, hf⟩ := x_bd hf
                refine x_cVi2 C hR hS (S_X12_of  ev_14) (x_k hR 64 rfl) (by decide) rfl mf_X12_of tw_1806 (Nat.le_of_ble_eq_true rfl) (Nat.le_of_ble_eq_true rfl) hl.1 (Nat.le_of_ble_eq_true rfl) dX12_about_146 ⟨Nat.le_refl _, Nat.le_refl _⟩ (fun H locs hR hS => ?_)
                refine lv_iload hx hb dX12_about_149 (lv_at hl 0 rfl) ?_
                refine lv_iadd hx hb dX12_about_151 ?_
                cases hf
                exact x_iret C hR hS dX12_about_152
              · have hf := x_in hc1 hf
                by_cases hc2 : v3 = 2
                · have hf := x_ip hc2 hf
                  refine lv_tableIn (tgt := 153) hx hb dX12_about_97 (by rw [hc2]; decide) (by rw [hc2]; decide) (by rw [hc2] <;> rfl) rfl ?_
                  refine lv_aload_n hx hb dX12_about_153 rfl (lv_at hl 1 rfl) ?_
                  refine gf_12_14 C hR (x_k hR 64 rfl) tw_1557 dX12_about_154 ?_
                  refine lv_bipush (v := 7) hx hb dX12_about_157 rfl ?_
                  obtain ⟨g15, hf⟩ := x_gd hf
                  refine x_iald C hR (x_k1 (x_k hR 69 rfl)) (x_k2 (x_k hR 69 rfl) g15) dX12_about_159 ?_
                  cases hf
                  exact x_iret C hR hS dX12_about_160
                · have hf := x_in hc2 hf
                  by_cases hc3 : v3 = 3
                  · have hf := x_ip hc3 hf
                    refine lv_tableIn (tgt := 161) hx hb dX12_about_97 (by rw [hc3]; decide) (by rw [hc3]; decide) (by rw [hc3] <;> rfl) rfl ?_
                    refine lv_aload_n hx hb dX12_about_161 rfl (lv_at hl 1 rfl) ?_
                    refine gf_12_14 C hR (x_k hR 64 rfl) tw_1557 dX12_about_162 ?_
                    refine lv_iconst (v := 4) hx hb dX12_about_165 rfl ?_
                    obtain ⟨g16, hf⟩ := x_gd hf
                    refine x_iald C hR (x_k1 (x_k hR 69 rfl)) (x_k2 (x_k hR 69 rfl) g16) dX12_about_166 ?_
                    cases hf
                    exact x_iret C hR hS dX12_about_167
                  · have hf := x_in hc3 hf
                    by_cases hc4 : v3 = 4
                    · have hf := x_ip hc4 hf
                      refine lv_tableIn (tgt := 168) hx hb dX12_about_97 (by rw [hc4]; decide) (by rw [hc4]; decide) (by rw [hc4] <;> rfl) rfl ?_
                      refine lv_aload_n hx hb dX12_about_168 rfl (lv_at hl 1 rfl) ?_
                      refine gf_12_14 C hR (x_k hR 64 rfl) tw_1557 dX12_about_169 ?_
                      refine lv_iconst (v := 2) hx hb dX12_about_172 rfl ?_
                      obtain ⟨g17, hf⟩ := x_gd hf
                      refine x_iald C hR (x_k1 (x_k hR 69 rfl)) (x_k2 (x_k hR 69 rfl) g17) dX12_about_173 ?_
                      cases hf
                      exact x_iret C hR hS dX12_about_174
                    · have hf := x_in hc4 hf
                      by_cases hc5 : v3 = 5
                      · have hf := x_ip hc5 hf
                        refine lv_tableIn (tgt := 175) hx hb dX12_about_97 (by rw [hc5]; decide) (by rw [hc5]; decide) (by rw [hc5] <;> rfl) rfl ?_
                        refine lv_aload_n hx hb dX12_about_175 rfl (lv_at hl 1 rfl) ?_
                        refine gf_12_14 C hR (x_k hR 64 rfl) tw_1557 dX12_about_176 ?_
                        refine lv_iconst (v := 3) hx hb dX12_about_179 rfl ?_
                        obtain ⟨g18, hf⟩ := x_gd hf
                        refine x_iald C hR (x_k1 (x_k hR 69 rfl)) (x_k2 (x_k hR 69 rfl) g18) dX12_about_180 ?_
                        cases hf
                        exact x_iret C hR hS dX12_about_181
                      · have hf := x_in hc5 hf
                        by_cases hc6 : v3 = 6
                        · have hf := x_ip hc6 hf
                          refine lv_tableIn (tgt := 182) hx hb dX12_about_97 (by rw [hc6]; decide) (by rw [hc6]; decide) (by rw [hc6] <;> rfl) rfl ?_
                          refine lv_aload_n hx hb dX12_about_182 rfl (lv_at hl 1 rfl) ?_
                          refine gf_12_14 C hR (x_k hR 64 rfl) tw_1557 dX12_about_183 ?_
                          refine lv_iconst (v := 1) hx hb dX12_about_186 rfl ?_
                          obtain ⟨g19, hf⟩ := x_gd hf
                          refine x_iald C hR (x_k1 (x_k hR 69 rfl)) (x_k2 (x_k hR 69 rfl) g19) dX12_about_187 ?_
                          cases hf
                          exact x_iret C hR hS dX12_about_188
                        · have hf := x_in hc6 hf
                          refine lv_tableOut (tgt := 189) hx hb dX12_about_97 (x_tab v3 (fun z h1 h2 => ?_)) rfl ?_
                          · have hz : z = 0 ∨ z = 1 ∨ z = 2 ∨ z = 3 ∨ z = 4 ∨ z = 5 ∨ z = 6 := by omega
                            rcases hz with rfl | rfl | rfl | rfl | rfl | rfl | rfl
                            · exact hc0
                            · exact hc1
                            · exact hc2
                            · exact hc3
                            · exact hc4
                            · exact hc5
                            · exact hc6
                          · refine lv_aload_n hx hb dX12_about_189 rfl (lv_at hl 1 rfl) ?_
                            refine lv_iload_n hx hb dX12_about_190 rfl (lv_at hl 2 rfl) ?_
                            refine lv_bipush (v := 29) hx hb dX12_about_191 rfl ?_
                            refine lv_iload_n hx hb dX12_about_193 rfl (lv_at hl 3 rfl) ?_
                            refine lv_iadd hx hb dX12_about_194 ?_
                            obtain ⟨v_20, ev_20, hf⟩ := x_bd hf
                            refine x_cVi2 C hR hS (S_X12_of  ev_20) (x_k hR 64 rfl) (by decide) rfl mf_X12_of tw_1806 (Nat.le_of_ble_eq_true rfl) (Nat.le_of_ble_eq_true rfl) hl.1 (Nat.le_of_ble_eq_true rfl) dX12_about_195 ⟨Nat.le_refl _, Nat.le_refl _⟩ (fun H locs hR hS => ?_)
                            cases hf
                            exact x_iret C hR hS dX12_about_198
          · have hf := x_in hc hf
            exact B_X12_about_63  C   ls _ _ q8.2  (lv_sub hl [] rfl) hR hS hf
        refine lv_if_ne (tgt := 55) hx hb dX12_about_48 rfl (fun hc => ?_) (fun hc => ?_)
        · try simp only [if_neg hc] at kM7
          refine lv_iconst (v := 0) hx hb dX12_about_55 rfl ?_
          exact kM7 ls _ _ (lv_sub hl [0, 1, 2, 3] rfl) hR hS
        · try simp only [if_pos hc] at kM7
          refine lv_iconst (v := 1) hx hb dX12_about_51 rfl ?_
          refine lv_goto (tgt := 56) hx hb dX12_about_52 rfl ?_
          exact kM7 ls _ _ (lv_sub hl [0, 1, 2, 3] rfl) hR hS
    refine lv_if_ne (tgt := 32) hx hb dX12_about_25 rfl (fun hc => ?_) (fun hc => ?_)
    · try simp only [if_neg hc] at kM5
      refine lv_iconst (v := 0) hx hb dX12_about_32 rfl ?_
      exact kM5 ls _ _ (lv_sub hl [0, 1, 2, 3] rfl) hR hS
    · try simp only [if_pos hc] at kM5
      refine lv_iconst (v := 1) hx hb dX12_about_28 rfl ?_
      refine lv_goto (tgt := 33) hx hb dX12_about_29 rfl ?_
      exact kM5 ls _ _ (lv_sub hl [0, 1, 2, 3] rfl) hR hS
def f_X12_noLaw (x : Nat) (h : XH) (v1 : Int32) : Option Int32 := Option.bind (f_X12_none x h v1 2) (fun v_1 => if x_isb v_1 = true then some v_1 else none)
set_option maxRecDepth 20000 in
theorem S_X12_noLaw {l : Launch} {O : XO} {K : XK} {h : XH} {v1 : Int32}  {r : Int32}  (hf : f_X12_noLaw (oX O) h v1 = some r) : x_M l O K yX12_noLaw cX12_noLaw 2 (some .boolean) 2 44 h [.ref (oX O + 64), .int v1] (some (.int r)) h := by
  refine x_enter (by decide) (Nat.le_of_ble_eq_true rfl) (fun p e s m args below meth c C hR ls hl => ?_)
  have hS : va_S (oA O) s.heap s.heap [] := va_S.rf
  have hx := C.1
  have hb := C.2.1
  have hl : lv_has ls 2 [(0, .ref (oX O + 64)), (1, .int v1)] := hl
  rw [f_X12_noLaw] at hf
  refine lv_aload_n hx hb dX12_noLaw_0 rfl (lv_at hl 0 rfl) ?_
  refine lv_iload_n hx hb dX12_noLaw_1 rfl (lv_at hl 1 rfl) ?_
  refine lv_iconst (v := 2) hx hb dX12_noLaw_2 rfl ?_
  obtain ⟨v_1, ev_1, hf⟩ := x_bd hf
  refine x_cVi2 C hR hS (S_X12_none  ev_1) (x_k hR 64 rfl) (by decide) rfl mf_X12_none tw_1778 (Nat.le_of_ble_eq_true rfl) (Nat.le_of_ble_eq_true rfl) hl.1 (Nat.le_of_ble_eq_true rfl) dX12_noLaw_3 ⟨Nat.le_refl _, Nat.le_refl _⟩ (fun H locs hR hS => ?_)
  obtain ⟨g2, hf⟩ := x_gd hf
  cases hf
  exact x_zret C hR hS (x_isb_of g2) dX12_noLaw_6
def f_X12_cardAt_49 (x : Nat) (h : XH) : Option Int32 := some (-1)
def f_X12_cardAt (x : Nat) (h : XH) (v1 : Int32) (v2 : Int32) (v3 : Int32) : Option Int32 := Option.bind (f_X12_of x h v1 6) (fun v_1 => if v2 < 0 then f_X12_cardAt_49 x h else Option.bind (f_X12_of x h v1 6) (fun v_2 => if v_2 ≤ v3 then f_X12_cardAt_49 x h else Option.bind (f_X12_of x h v1 2) (fun v_3 => if v_3 ≤ ((v2 * v_1) + v3) then f_X12_cardAt_49 x h else Option.bind (f_X12_cardOf x h v1 ((v2 * v_1) + v3)) (fun v_4 => some v_4))))
set_option maxRecDepth 20000 in
theorem B_X12_cardAt_49 {p : Program} {l : Launch} {e : Env} {s : State} {m : MethodId} {args : Array Value} {below : List Frame} {meth : Method} {c : Code} {O : XO} {K : XK} {h : XH} {r : Int32}   (C : x_C p s m args meth c O cX12_cardAt 5 RX12 (some .int))   (ls : Array Slot) (H : Heap) (locs : List Loc) (hl : lv_has ls 5 []) (hR : x_R O K h H) (hS : va_S (oA O) s.heap H locs) (hf : f_X12_cardAt_49 (oX O) h = some r) : W p l e (x_rm 2 44) s m args below meth c H locs 0 0 (MQ below (x_Qc O K h (some (.int r))) args s 0 0 (oA O)) (F0 m 49 ls []) := by
  have hx := C.1
  have hb := C.2.1
  rw [f_X12_cardAt_49] at hf
  refine lv_iconst (v := (-1)) hx hb dX12_cardAt_49 rfl ?_
  cases hf
  exact x_iret C hR hS dX12_cardAt_50
set_option maxRecDepth 20000 in
theorem S_X12_cardAt {l : Launch} {O : XO} {K : XK} {h : XH} {v1 : Int32} {v2 : Int32} {v3 : Int32}  {r : Int32}  (hf : f_X12_cardAt (oX O) h v1 v2 v3 = some r) : x_M l O K yX12_cardAt cX12_cardAt 5 (some .int) 2 44 h [.ref (oX O + 64), .int v1, .int v2, .int v3] (some (.int r)) h := by
  refine x_enter (by decide) (Nat.le_of_ble_eq_true rfl) (fun p e s m args below meth c C hR ls hl => ?_)
  have hS : va_S (oA O) s.heap s.heap [] := va_S.rf
  have hx := C.1
  have hb := C.2.1
  have hl : lv_has ls 5 [(0, .ref (oX O + 64)), (1, .int v1), (2, .int v2), (3, .int v3)] := hl
  rw [f_X12_cardAt] at hf
  refine lv_iload_n hx hb dX12_cardAt_0 rfl (lv_at hl 2 rfl) ?_
  refine lv_aload_n hx hb dX12_cardAt_1 rfl (lv_at hl 0 rfl) ?_
  refine lv_iload_n hx hb dX12_cardAt_2 rfl (lv_at hl 1 rfl) ?_
  refine lv_bipush (v := 6) hx hb dX12_cardAt_3 rfl ?_
  obtain ⟨v_1, ev_1, hf⟩ := x_bd hf
  refine x_cVi2 C hR hS (S_X12_of  ev_1) (x_k hR 64 rfl) (by decide) rfl mf_X12_of tw_1806 (Nat.le_of_ble_eq_true rfl) (Nat.le_of_ble_eq_true rfl) hl.1 (Nat.le_of_ble_eq_true rfl) dX12_cardAt_5 ⟨Nat.le_refl _, Nat.le_refl _⟩ (fun H locs hR hS => ?_)
  refine lv_imul hx hb dX12_cardAt_8 ?_
  refine lv_iload_n hx hb dX12_cardAt_9 rfl (lv_at hl 3 rfl) ?_
  refine lv_iadd hx hb dX12_cardAt_10 ?_
  refine lv_istore (lv' := [(4, _), (0, _), (1, _), (2, _), (3, _)]) hx hb dX12_cardAt_11 hl (Nat.le_of_ble_eq_true rfl) rfl (fun ls hl => ?_)
  refine lv_iload_n hx hb dX12_cardAt_13 rfl (lv_at hl 3 rfl) ?_
  refine lv_if_lt (tgt := 49) hx hb dX12_cardAt_14 rfl (fun hc => ?_) (fun hc => ?_)
  · have hf := x_ip hc hf
    exact B_X12_cardAt_49  C   ls _ _   (lv_sub hl [] rfl) hR hS hf
  · have hf := x_in hc hf
    refine lv_iload_n hx hb dX12_cardAt_17 rfl (lv_at hl 4 rfl) ?_
    refine lv_aload_n hx hb dX12_cardAt_18 rfl (lv_at hl 1 rfl) ?_
    refine lv_iload_n hx hb dX12_cardAt_19 rfl (lv_at hl 2 rfl) ?_
    refine lv_bipush (v := 6) hx hb dX12_cardAt_20 rfl ?_
    obtain ⟨v_2, ev_2, hf⟩ := x_bd hf
    refine x_cVi2 C hR hS (S_X12_of  ev_2) (x_k hR 64 rfl) (by decide) rfl mf_X12_of tw_1806 (Nat.le_of_ble_eq_true rfl) (Nat.le_of_ble_eq_true rfl) hl.1 (Nat.le_of_ble_eq_true rfl) dX12_cardAt_22 ⟨Nat.le_refl _, Nat.le_refl _⟩ (fun H locs hR hS => ?_)
    refine lv_icmp_ge (tgt := 49) hx hb dX12_cardAt_25 rfl (fun hc => ?_) (fun hc => ?_)
    · have hf := x_ip hc hf
      exact B_X12_cardAt_49  C   ls _ _   (lv_sub hl [] rfl) hR hS hf
    · have hf := x_in hc hf
      refine lv_iload hx hb dX12_cardAt_28 (lv_at hl 0 rfl) ?_
      refine lv_aload_n hx hb dX12_cardAt_30 rfl (lv_at hl 1 rfl) ?_
      refine lv_iload_n hx hb dX12_cardAt_31 rfl (lv_at hl 2 rfl) ?_
      refine lv_iconst (v := 2) hx hb dX12_cardAt_32 rfl ?_
      obtain ⟨v_3, ev_3, hf⟩ := x_bd hf
      refine x_cVi2 C hR hS (S_X12_of  ev_3) (x_k hR 64 rfl) (by decide) rfl mf_X12_of tw_1806 (Nat.le_of_ble_eq_true rfl) (Nat.le_of_ble_eq_true rfl) hl.1 (Nat.le_of_ble_eq_true rfl) dX12_cardAt_33 ⟨Nat.le_refl _, Nat.le_refl _⟩ (fun H locs hR hS => ?_)
      refine lv_icmp_ge (tgt := 49) hx hb dX12_cardAt_36 rfl (fun hc => ?_) (fun hc => ?_)
      · have hf := x_ip hc hf
        exact B_X12_cardAt_49  C   ls _ _   (lv_sub hl [] rfl) hR hS hf
      · have hf := x_in hc hf
        refine lv_aload_n hx hb dX12_cardAt_39 rfl (lv_at hl 1 rfl) ?_
        refine lv_iload_n hx hb dX12_cardAt_40 rfl (lv_at hl 2 rfl) ?_
        refine lv_iload hx hb dX12_cardAt_41 (lv_at hl 0 rfl) ?_
        obtain ⟨v_4, ev_4, hf⟩ := x_bd hf
        refine x_cVi2 C hR hS (S_X12_cardOf  ev_4) (x_k hR 64 rfl) (by decide) rfl mf_X12_cardOf tw_1810 (Nat.le_of_ble_eq_true rfl) (Nat.le_of_ble_eq_true rfl) hl.1 (Nat.le_of_ble_eq_true rfl) dX12_cardAt_43 ⟨Nat.le_refl _, Nat.le_refl _⟩ (fun H locs hR hS => ?_)
        refine lv_goto (tgt := 50) hx hb dX12_cardAt_46 rfl ?_
        cases hf
        exact x_iret C hR hS dX12_cardAt_50
def f_X12_ghostOf_114 (k19 : Int32 → Int32 → Int32 → Int32 → Int32 → Int32 → Option Int32) (x : Nat) (h : XH) (v1 : Int32) (v3 : Int32) (v4 : Int32) (v5 : Int32) (v6 : Int32) (v7 : Int32) : Option Int32 := k19 v1 v3 v4 v5 v6 (v7 + 1)
def f_X12_ghostOf_19 (x : Nat) (h : XH) : Nat → Int32 → Int32 → Int32 → Int32 → Int32 → Int32 → Option Int32
  | 0, _, _, _, _, _, _ => none
  | n + 1, v1, v3, v4, v5, v6, v7 => if x_b 1 6927 = true then if (h.1 (x + 65) (1 : Int32).toNatClampNeg) ≤ v7 then some v5 else Option.bind (f_X12_of x h v1 4) (fun v_3 => Option.bind (f_X12_placeAt x h v7 v_3 v4) (fun v_4 => if v_4 < 0 then f_X12_ghostOf_114 (f_X12_ghostOf_19 x h n) x h v1 v3 v4 v5 v6 v7 else Option.bind (f_X12_of x h v7 3) (fun v_5 => Option.bind (f_X12_of x h v1 3) (fun v_6 => if v_6 ≤ v_5 then f_X12_ghostOf_114 (f_X12_ghostOf_19 x h n) x h v1 v3 v4 v5 v6 v7 else Option.bind (f_X12_of x h v7 3) (fun v_7 => if v_7 < v6 then f_X12_ghostOf_114 (f_X12_ghostOf_19 x h n) x h v1 v3 v4 v5 v6 v7 else Option.bind (f_X12_cardAt x h v7 v_4 v3) (fun v_8 => if 0 ≤ v_8 then Option.bind (f_X12_of x h v7 3) (fun v_9 => Option.bind (f_X12_cardAt x h v7 v_4 v3) (fun v_10 => f_X12_ghostOf_114 (f_X12_ghostOf_19 x h n) x h v1 v3 v4 v_10 v_9 v7)) else f_X12_ghostOf_114 (f_X12_ghostOf_19 x h n) x h v1 v3 v4 v5 v6 v7)))))) else none
def f_X12_ghostOf (x : Nat) (h : XH) (v1 : Int32) (v2 : Int32) (v3 : Int32) : Option Int32 := Option.bind (f_X12_of x h v1 5) (fun v_1 => f_X12_ghostOf_19 x h x_FU v1 v3 (v_1 + v2) (-1) 0 0)
set_option maxRecDepth 20000 in
theorem B_X12_ghostOf_114 {p : Program} {l : Launch} {e : Env} {s : State} {m : MethodId} {args : Array Value} {below : List Frame} {meth : Method} {c : Code} {O : XO} {K : XK} {h : XH} {r : Int32}  {k19 : Int32 → Int32 → Int32 → Int32 → Int32 → Int32 → Option Int32} (C : x_C p s m args meth c O cX12_ghostOf 9 RX12 (some .int)) (hk19 : ∀ (ls : Array Slot) (H : Heap) (locs : List Loc) (v1 : Int32) (v3 : Int32) (v4 : Int32) (v5 : Int32) (v6 : Int32) (v7 : Int32), lv_has ls 9 [(0, .ref (oX O + 64)), (1, .int v1), (3, .int v3), (4, .int v4), (5, .int v5), (6, .int v6), (7, .int v7)] → x_R O K h H → va_S (oA O) s.heap H locs → k19 v1 v3 v4 v5 v6 v7 = some r → W p l e (x_rm 3 68) s m args below meth c H locs 0 0 (MQ below (x_Qc O K h (some (.int r))) args s 0 0 (oA O)) (F0 m 19 ls []))  (ls : Array Slot) (H : Heap) (locs : List Loc) (v1 : Int32) (v3 : Int32) (v4 : Int32) (v5 : Int32) (v6 : Int32) (v7 : Int32) (hl : lv_has ls 9 [(0, .ref (oX O + 64)), (1, .int v1), (3, .int v3), (4, .int v4), (5, .int v5), (6, .int v6), (7, .int v7)]) (hR : x_R O K h H) (hS : va_S (oA O) s.heap H locs) (hf : f_X12_ghostOf_114 k19 (oX O) h v1 v3 v4 v5 v6 v7 = some r) : W p l e (x_rm 3 68) s m args below meth c H locs 0 0 (MQ below (x_Qc O K h (some (.int r))) args s 0 0 (oA O)) (F0 m 114 ls []) := by
  have hx := C.1
  have hb := C.2.1
  rw [f_X12_ghostOf_114] at hf
  refine lv_iinc (k := 6) (v := _ + 1) (lv' := [(7, _), (0, _), (1, _), (3, _), (4, _), (5, _), (6, _)]) hx hb dX12_ghostOf_114 hl rfl (x_inc 1 1 rfl _) (Nat.le_of_ble_eq_true rfl) rfl (fun ls hl => ?_)
  refine lv_goto (tgt := 19) hx hb dX12_ghostOf_117 rfl ?_
  exact hk19 ls _ _ _ _ _ _ _ _  (lv_sub hl [1, 2, 3, 4, 5, 6, 0] rfl) hR hS hf
set_option maxRecDepth 20000 in
theorem B_X12_ghostOf_19 {p : Program} {l : Launch} {e : Env} {s : State} {m : MethodId} {args : Array Value} {below : List Frame} {meth : Method} {c : Code} {O : XO} {K : XK} {h : XH} {r : Int32}   (C : x_C p s m args meth c O cX12_ghostOf 9 RX12 (some .int))   : ∀ (n : Nat) (ls : Array Slot) (H : Heap) (locs : List Loc) (v1 : Int32) (v3 : Int32) (v4 : Int32) (v5 : Int32) (v6 : Int32) (v7 : Int32) (hl : lv_has ls 9 [(0, .ref (oX O + 64)), (1, .int v1), (3, .int v3), (4, .int v4), (5, .int v5), (6, .int v6), (7, .int v7)]) (hR : x_R O K h H) (hS : va_S (oA O) s.heap H locs) (hf : f_X12_ghostOf_19 (oX O) h n v1 v3 v4 v5 v6 v7 = some r), W p l e (x_rm 3 68) s m args below meth c H locs 0 0 (MQ below (x_Qc O K h (some (.int r))) args s 0 0 (oA O)) (F0 m 19 ls []) := by
  have hx := C.1
  have hb := C.2.1
  intro n
  induction n with
  | zero =>
    intro ls H locs v1 v3 v4 v5 v6 v7 hl hR hS hf
    rw [f_X12_ghostOf_19] at hf
    cases hf
  | succ n ih =>
    intro ls H locs v1 v3 v4 v5 v6 v7 hl hR hS hf
    rw [f_X12_ghostOf_19] at hf
    refine lv_iload hx hb dX12_ghostOf_19 (lv_at hl 6 rfl) ?_
    refine lv_aload_n hx hb dX12_ghostOf_21 rfl (lv_at hl 0 rfl) ?_
    refine gf_12_1 C hR (x_k hR 64 rfl) tw_1544 dX12_ghostOf_22 ?_
    refine lv_iconst (v := 1) hx hb dX12_ghostOf_25 rfl ?_
    obtain ⟨g2, hf⟩ := x_gd hf
    refine x_iald C hR (x_k1 (x_k hR 65 rfl)) (x_k2 (x_k hR 65 rfl) g2) dX12_ghostOf_26 ?_
    refine lv_icmp_ge (tgt := 120) hx hb dX12_ghostOf_27 rfl (fun hc => ?_) (fun hc => ?_)
    · have hf := x_ip hc hf
      refine lv_iload hx hb dX12_ghostOf_120 (lv_at hl 4 rfl) ?_
      cases hf
      exact x_iret C hR hS dX12_ghostOf_122
    · have hf := x_in hc hf
      refine lv_aload_n hx hb dX12_ghostOf_30 rfl (lv_at hl 0 rfl) ?_
      refine lv_iload hx hb dX12_ghostOf_31 (lv_at hl 6 rfl) ?_
      refine lv_aload_n hx hb dX12_ghostOf_33 rfl (lv_at hl 0 rfl) ?_
      refine lv_iload_n hx hb dX12_ghostOf_34 rfl (lv_at hl 1 rfl) ?_
      refine lv_iconst (v := 4) hx hb dX12_ghostOf_35 rfl ?_
      obtain ⟨v_3, ev_3, hf⟩ := x_bd hf
      refine x_cVi2 C hR hS (S_X12_of  ev_3) (x_k hR 64 rfl) (by decide) rfl mf_X12_of tw_1806 (Nat.le_of_ble_eq_true rfl) (Nat.le_of_ble_eq_true rfl) hl.1 (Nat.le_of_ble_eq_true rfl) dX12_ghostOf_36 ⟨Nat.le_refl _, Nat.le_refl _⟩ (fun H locs hR hS => ?_)
      refine lv_iload hx hb dX12_ghostOf_39 (lv_at hl 3 rfl) ?_
      obtain ⟨v_4, ev_4, hf⟩ := x_bd hf
      refine x_cVi3 C hR hS (S_X12_placeAt  ev_4) (x_k hR 64 rfl) (by decide) rfl mf_X12_placeAt tw_1865 (Nat.le_of_ble_eq_true rfl) (Nat.le_of_ble_eq_true rfl) hl.1 (Nat.le_of_ble_eq_true rfl) dX12_ghostOf_41 ⟨Nat.le_refl _, Nat.le_refl _⟩ (fun H locs hR hS => ?_)
      refine lv_istore (lv' := [(8, _), (0, _), (1, _), (3, _), (4, _), (5, _), (6, _), (7, _)]) hx hb dX12_ghostOf_44 hl (Nat.le_of_ble_eq_true rfl) rfl (fun ls hl => ?_)
      refine lv_iload hx hb dX12_ghostOf_46 (lv_at hl 0 rfl) ?_
      refine lv_if_lt (tgt := 114) hx hb dX12_ghostOf_48 rfl (fun hc => ?_) (fun hc => ?_)
      · have hf := x_ip hc hf
        exact B_X12_ghostOf_114  C ih  ls _ _ _ _ _ _ _ _  (lv_sub hl [1, 2, 3, 4, 5, 6, 7] rfl) hR hS hf
      · have hf := x_in hc hf
        refine lv_aload_n hx hb dX12_ghostOf_51 rfl (lv_at hl 1 rfl) ?_
        refine lv_iload hx hb dX12_ghostOf_52 (lv_at hl 7 rfl) ?_
        refine lv_iconst (v := 3) hx hb dX12_ghostOf_54 rfl ?_
        obtain ⟨v_5, ev_5, hf⟩ := x_bd hf
        refine x_cVi2 C hR hS (S_X12_of  ev_5) (x_k hR 64 rfl) (by decide) rfl mf_X12_of tw_1806 (Nat.le_of_ble_eq_true rfl) (Nat.le_of_ble_eq_true rfl) hl.1 (Nat.le_of_ble_eq_true rfl) dX12_ghostOf_55 ⟨Nat.le_refl _, Nat.le_refl _⟩ (fun H locs hR hS => ?_)
        refine lv_aload_n hx hb dX12_ghostOf_58 rfl (lv_at hl 1 rfl) ?_
        refine lv_iload_n hx hb dX12_ghostOf_59 rfl (lv_at hl 2 rfl) ?_
        refine lv_iconst (v := 3) hx hb dX12_ghostOf_60 rfl ?_
        obtain ⟨v_6, ev_6, hf⟩ := x_bd hf
        refine x_cVi2 C hR hS (S_X12_of  ev_6) (x_k hR 64 rfl) (by decide) rfl mf_X12_of tw_1806 (Nat.le_of_ble_eq_true rfl) (Nat.le_of_ble_eq_true rfl) hl.1 (Nat.le_of_ble_eq_true rfl) dX12_ghostOf_61 ⟨Nat.le_refl _, Nat.le_refl _⟩ (fun H locs hR hS => ?_)
        refine lv_icmp_ge (tgt := 114) hx hb dX12_ghostOf_64 rfl (fun hc => ?_) (fun hc => ?_)
        · have hf := x_ip hc hf
          exact B_X12_ghostOf_114  C ih  ls _ _ _ _ _ _ _ _  (lv_sub hl [1, 2, 3, 4, 5, 6, 7] rfl) hR hS hf
        · have hf := x_in hc hf
          refine lv_aload_n hx hb dX12_ghostOf_67 rfl (lv_at hl 1 rfl) ?_
          refine lv_iload hx hb dX12_ghostOf_68 (lv_at hl 7 rfl) ?_
          refine lv_iconst (v := 3) hx hb dX12_ghostOf_70 rfl ?_
          obtain ⟨v_7, ev_7, hf⟩ := x_bd hf
          refine x_cVi2 C hR hS (S_X12_of  ev_7) (x_k hR 64 rfl) (by decide) rfl mf_X12_of tw_1806 (Nat.le_of_ble_eq_true rfl) (Nat.le_of_ble_eq_true rfl) hl.1 (Nat.le_of_ble_eq_true rfl) dX12_ghostOf_71 ⟨Nat.le_refl _, Nat.le_refl _⟩ (fun H locs hR hS => ?_)
          refine lv_iload hx hb dX12_ghostOf_74 (lv_at hl 6 rfl) ?_
          refine lv_icmp_lt (tgt := 114) hx hb dX12_ghostOf_76 rfl (fun hc => ?_) (fun hc => ?_)
          · have hf := x_ip hc hf
            exact B_X12_ghostOf_114  C ih  ls _ _ _ _ _ _ _ _  (lv_sub hl [1, 2, 3, 4, 5, 6, 7] rfl) hR hS hf
          · have hf := x_in hc hf
            refine lv_aload_n hx hb dX12_ghostOf_79 rfl (lv_at hl 1 rfl) ?_
            refine lv_iload hx hb dX12_ghostOf_80 (lv_at hl 7 rfl) ?_
            refine lv_iload hx hb dX12_ghostOf_82 (lv_at hl 0 rfl) ?_
            refine lv_iload_n hx hb dX12_ghostOf_84 rfl (lv_at hl 3 rfl) ?_
            obtain ⟨v_8, ev_8, hf⟩ := x_bd hf
            refine x_cVi3 C hR hS (S_X12_cardAt  ev_8) (x_k hR 64 rfl) (by decide) rfl mf_X12_cardAt tw_1927 (Nat.le_of_ble_eq_true rfl) (Nat.le_of_ble_eq_true rfl) hl.1 (Nat.le_of_ble_eq_true rfl) dX12_ghostOf_85 ⟨Nat.le_refl _, Nat.le_refl _⟩ (fun H locs hR hS => ?_)
            refine lv_if_ge (tgt := 94) hx hb dX12_ghostOf_88 rfl (fun hc => ?_) (fun hc => ?_)
            · have hf := x_ip hc hf
              refine lv_aload_n hx hb dX12_ghostOf_94 rfl (lv_at hl 1 rfl) ?_
              refine lv_iload hx hb dX12_ghostOf_95 (lv_at hl 7 rfl) ?_
              refine lv_iconst (v := 3) hx hb dX12_ghostOf_97 rfl ?_
              obtain ⟨v_9, ev_9, hf⟩ := x_bd hf
              refine x_cVi2 C hR hS (S_X12_of  ev_9) (x_k hR 64 rfl) (by decide) rfl mf_X12_of tw_1806 (Nat.le_of_ble_eq_true rfl) (Nat.le_of_ble_eq_true rfl) hl.1 (Nat.le_of_ble_eq_true rfl) dX12_ghostOf_98 ⟨Nat.le_refl _, Nat.le_refl _⟩ (fun H locs hR hS => ?_)
              refine lv_istore (lv' := [(6, _), (8, _), (0, _), (1, _), (3, _), (4, _), (5, _), (7, _)]) hx hb dX12_ghostOf_101 hl (Nat.le_of_ble_eq_true rfl) rfl (fun ls hl => ?_)
              refine lv_aload_n hx hb dX12_ghostOf_103 rfl (lv_at hl 2 rfl) ?_
              refine lv_iload hx hb dX12_ghostOf_104 (lv_at hl 7 rfl) ?_
              refine lv_iload hx hb dX12_ghostOf_106 (lv_at hl 1 rfl) ?_
              refine lv_iload_n hx hb dX12_ghostOf_108 rfl (lv_at hl 4 rfl) ?_
              obtain ⟨v_10, ev_10, hf⟩ := x_bd hf
              refine x_cVi3 C hR hS (S_X12_cardAt  ev_10) (x_k hR 64 rfl) (by decide) rfl mf_X12_cardAt tw_1927 (Nat.le_of_ble_eq_true rfl) (Nat.le_of_ble_eq_true rfl) hl.1 (Nat.le_of_ble_eq_true rfl) dX12_ghostOf_109 ⟨Nat.le_refl _, Nat.le_refl _⟩ (fun H locs hR hS => ?_)
              refine lv_istore (lv' := [(5, _), (6, _), (8, _), (0, _), (1, _), (3, _), (4, _), (7, _)]) hx hb dX12_ghostOf_112 hl (Nat.le_of_ble_eq_true rfl) rfl (fun ls hl => ?_)
              exact B_X12_ghostOf_114  C ih  ls _ _ _ _ _ _ _ _  (lv_sub hl [3, 4, 5, 6, 0, 1, 7] rfl) hR hS hf
            · have hf := x_in hc hf
              refine lv_goto (tgt := 114) hx hb dX12_ghostOf_91 rfl ?_
              exact B_X12_ghostOf_114  C ih  ls _ _ _ _ _ _ _ _  (lv_sub hl [1, 2, 3, 4, 5, 6, 7] rfl) hR hS hf
set_option maxRecDepth 20000 in
theorem S_X12_ghostOf {l : Launch} {O : XO} {K : XK} {h : XH} {v1 : Int32} {v2 : Int32} {v3 : Int32}  {r : Int32}  (hf : f_X12_ghostOf (oX O) h v1 v2 v3 = some r) : x_M l O K yX12_ghostOf cX12_ghostOf 9 (some .int) 3 68 h [.ref (oX O + 64), .int v1, .int v2, .int v3] (some (.int r)) h := by
  refine x_enter (by decide) (Nat.le_of_ble_eq_true rfl) (fun p e s m args below meth c C hR ls hl => ?_)
  have hS : va_S (oA O) s.heap s.heap [] := va_S.rf
  have hx := C.1
  have hb := C.2.1
  have hl : lv_has ls 9 [(0, .ref (oX O + 64)), (1, .int v1), (2, .int v2), (3, .int v3)] := hl
  rw [f_X12_ghostOf] at hf
  refine lv_aload_n hx hb dX12_ghostOf_0 rfl (lv_at hl 0 rfl) ?_
  refine lv_iload_n hx hb dX12_ghostOf_1 rfl (lv_at hl 1 rfl) ?_
  refine lv_iconst (v := 5) hx hb dX12_ghostOf_2 rfl ?_
  obtain ⟨v_1, ev_1, hf⟩ := x_bd hf
  refine x_cVi2 C hR hS (S_X12_of  ev_1) (x_k hR 64 rfl) (by decide) rfl mf_X12_of tw_1806 (Nat.le_of_ble_eq_true rfl) (Nat.le_of_ble_eq_true rfl) hl.1 (Nat.le_of_ble_eq_true rfl) dX12_ghostOf_3 ⟨Nat.le_refl _, Nat.le_refl _⟩ (fun H locs hR hS => ?_)
  refine lv_iload_n hx hb dX12_ghostOf_6 rfl (lv_at hl 2 rfl) ?_
  refine lv_iadd hx hb dX12_ghostOf_7 ?_
  refine lv_istore (lv' := [(4, _), (0, _), (1, _), (2, _), (3, _)]) hx hb dX12_ghostOf_8 hl (Nat.le_of_ble_eq_true rfl) rfl (fun ls hl => ?_)
  refine lv_iconst (v := (-1)) hx hb dX12_ghostOf_10 rfl ?_
  refine lv_istore (lv' := [(5, _), (4, _), (0, _), (1, _), (2, _), (3, _)]) hx hb dX12_ghostOf_11 hl (Nat.le_of_ble_eq_true rfl) rfl (fun ls hl => ?_)
  refine lv_iconst (v := 0) hx hb dX12_ghostOf_13 rfl ?_
  refine lv_istore (lv' := [(6, _), (5, _), (4, _), (0, _), (1, _), (2, _), (3, _)]) hx hb dX12_ghostOf_14 hl (Nat.le_of_ble_eq_true rfl) rfl (fun ls hl => ?_)
  refine lv_iconst (v := 0) hx hb dX12_ghostOf_16 rfl ?_
  refine lv_istore (lv' := [(7, _), (6, _), (5, _), (4, _), (0, _), (1, _), (2, _), (3, _)]) hx hb dX12_ghostOf_17 hl (Nat.le_of_ble_eq_true rfl) rfl (fun ls hl => ?_)
  exact B_X12_ghostOf_19  C  x_FU ls _ _ _ _ _ _ _ _  (lv_sub hl [4, 5, 7, 3, 2, 1, 0] rfl) hR hS hf
def f_X12_alikeOf_79 (k19 : Int32 → Int32 → Int32 → Int32 → Int32 → Int32 → Option Int32) (x : Nat) (h : XH) (v1 : Int32) (v2 : Int32) (v3 : Int32) (v4 : Int32) (v5 : Int32) (v6 : Int32) : Option Int32 := k19 v1 v2 v3 v4 v5 (v6 + 1)
def f_X12_alikeOf_19 (x : Nat) (h : XH) : Nat → Int32 → Int32 → Int32 → Int32 → Int32 → Int32 → Option Int32
  | 0, _, _, _, _, _, _ => none
  | n + 1, v1, v2, v3, v4, v5, v6 => Option.bind (f_X12_places x h v1) (fun v_3 => if v_3 ≤ v6 then some (-1) else if v6 = v2 then f_X12_alikeOf_79 (f_X12_alikeOf_19 x h n) x h v1 v2 v3 v4 v5 v6 else Option.bind (f_X12_lookOf x h v4 (v5 + v6)) (fun v_4 => Option.bind (f_X12_lookOf x h v4 (v5 + v2)) (fun v_5 => if v_4 = v_5 then Option.bind (f_X12_cardAt x h v1 v6 v3) (fun v_6 => if v_6 < 0 then f_X12_alikeOf_79 (f_X12_alikeOf_19 x h n) x h v1 v2 v3 v4 v5 v6 else Option.bind (f_X12_cardAt x h v1 v6 v3) (fun v_7 => some v_7)) else f_X12_alikeOf_79 (f_X12_alikeOf_19 x h n) x h v1 v2 v3 v4 v5 v6)))
def f_X12_alikeOf (x : Nat) (h : XH) (v1 : Int32) (v2 : Int32) (v3 : Int32) : Option Int32 := Option.bind (f_X12_of x h v1 4) (fun v_1 => Option.bind (f_X12_of x h v1 5) (fun v_2 => f_X12_alikeOf_19 x h x_FU v1 v2 v3 v_1 v_2 0))
set_option maxRecDepth 20000 in
theorem B_X12_alikeOf_79 {p : Program} {l : Launch} {e : Env} {s : State} {m : MethodId} {args : Array Value} {below : List Frame} {meth : Method} {c : Code} {O : XO} {K : XK} {h : XH} {r : Int32}  {k19 : Int32 → Int32 → Int32 → Int32 → Int32 → Int32 → Option Int32} (C : x_C p s m args meth c O cX12_alikeOf 7 RX12 (some .int)) (hk19 : ∀ (ls : Array Slot) (H : Heap) (locs : List Loc) (v1 : Int32) (v2 : Int32) (v3 : Int32) (v4 : Int32) (v5 : Int32) (v6 : Int32), lv_has ls 7 [(0, .ref (oX O + 64)), (1, .int v1), (2, .int v2), (3, .int v3), (4, .int v4), (5, .int v5), (6, .int v6)] → x_R O K h H → va_S (oA O) s.heap H locs → k19 v1 v2 v3 v4 v5 v6 = some r → W p l e (x_rm 3 68) s m args below meth c H locs 0 0 (MQ below (x_Qc O K h (some (.int r))) args s 0 0 (oA O)) (F0 m 19 ls []))  (ls : Array Slot) (H : Heap) (locs : List Loc) (v1 : Int32) (v2 : Int32) (v3 : Int32) (v4 : Int32) (v5 : Int32) (v6 : Int32) (hl : lv_has ls 7 [(0, .ref (oX O + 64)), (1, .int v1), (2, .int v2), (3, .int v3), (4, .int v4), (5, .int v5), (6, .int v6)]) (hR : x_R O K h H) (hS : va_S (oA O) s.heap H locs) (hf : f_X12_alikeOf_79 k19 (oX O) h v1 v2 v3 v4 v5 v6 = some r) : W p l e (x_rm 3 68) s m args below meth c H locs 0 0 (MQ below (x_Qc O K h (some (.int r))) args s 0 0 (oA O)) (F0 m 79 ls []) := by
  have hx := C.1
  have hb := C.2.1
  rw [f_X12_alikeOf_79] at hf
  refine lv_iinc (k := 6) (v := _ + 1) (lv' := [(6, _), (0, _), (1, _), (2, _), (3, _), (4, _), (5, _)]) hx hb dX12_alikeOf_79 hl rfl (x_inc 1 1 rfl _) (Nat.le_of_ble_eq_true rfl) rfl (fun ls hl => ?_)
  refine lv_goto (tgt := 19) hx hb dX12_alikeOf_82 rfl ?_
  exact hk19 ls _ _ _ _ _ _ _ _  (lv_sub hl [1, 2, 3, 4, 5, 6, 0] rfl) hR hS hf
set_option maxRecDepth 20000 in
theorem B_X12_alikeOf_19 {p : Program} {l : Launch} {e : Env} {s : State} {m : MethodId} {args : Array Value} {below : List Frame} {meth : Method} {c : Code} {O : XO} {K : XK} {h : XH} {r : Int32}   (C : x_C p s m args meth c O cX12_alikeOf 7 RX12 (some .int))   : ∀ (n : Nat) (ls : Array Slot) (H : Heap) (locs : List Loc) (v1 : Int32) (v2 : Int32) (v3 : Int32) (v4 : Int32) (v5 : Int32) (v6 : Int32) (hl : lv_has ls 7 [(0, .ref (oX O + 64)), (1, .int v1), (2, .int v2), (3, .int v3), (4, .int v4), (5, .int v5), (6, .int v6)]) (hR : x_R O K h H) (hS : va_S (oA O) s.heap H locs) (hf : f_X12_alikeOf_19 (oX O) h n v1 v2 v3 v4 v5 v6 = some r), W p l e (x_rm 3 68) s m args below meth c H locs 0 0 (MQ below (x_Qc O K h (some (.int r))) args s 0 0 (oA O)) (F0 m 19 ls []) := by
  have hx := C.1
  have hb := C.2.1
  intro n
  induction n with
  | zero =>
    intro ls H locs v1 v2 v3 v4 v5 v6 hl hR hS hf
    rw [f_X12_alikeOf_19] at hf
    cases hf
  | succ n ih =>
    intro ls H locs v1 v2 v3 v4 v5 v6 hl hR hS hf
    rw [f_X12_alikeOf_19] at hf
    refine lv_iload hx hb dX12_alikeOf_19 (lv_at hl 6 rfl) ?_
    refine lv_aload_n hx hb dX12_alikeOf_21 rfl (lv_at hl 0 rfl) ?_
    refine lv_iload_n hx hb dX12_alikeOf_22 rfl (lv_at hl 1 rfl) ?_
    obtain ⟨v_3, ev_3, hf⟩ := x_bd hf
    refine x_cVi1 C hR hS (S_X12_places  ev_3) (x_k hR 64 rfl) (by decide) rfl mf_X12_places tw_1833 (Nat.le_of_ble_eq_true rfl) (Nat.le_of_ble_eq_true rfl) hl.1 (Nat.le_of_ble_eq_true rfl) dX12_alikeOf_23 ⟨Nat.le_refl _, Nat.le_refl _⟩ (fun H locs hR hS => ?_)
    refine lv_icmp_ge (tgt := 85) hx hb dX12_alikeOf_26 rfl (fun hc => ?_) (fun hc => ?_)
    · have hf := x_ip hc hf
      refine lv_iconst (v := (-1)) hx hb dX12_alikeOf_85 rfl ?_
      cases hf
      exact x_iret C hR hS dX12_alikeOf_86
    · have hf := x_in hc hf
      refine lv_iload hx hb dX12_alikeOf_29 (lv_at hl 6 rfl) ?_
      refine lv_iload_n hx hb dX12_alikeOf_31 rfl (lv_at hl 2 rfl) ?_
      refine lv_icmp_eq (tgt := 79) hx hb dX12_alikeOf_32 rfl (fun hc => ?_) (fun hc => ?_)
      · have hf := x_ip hc hf
        exact B_X12_alikeOf_79  C ih  ls _ _ _ _ _ _ _ _  (lv_sub hl [0, 1, 2, 3, 4, 5, 6] rfl) hR hS hf
      · have hf := x_in hc hf
        refine lv_aload_n hx hb dX12_alikeOf_35 rfl (lv_at hl 0 rfl) ?_
        refine lv_iload hx hb dX12_alikeOf_36 (lv_at hl 4 rfl) ?_
        refine lv_iload hx hb dX12_alikeOf_38 (lv_at hl 5 rfl) ?_
        refine lv_iload hx hb dX12_alikeOf_40 (lv_at hl 6 rfl) ?_
        refine lv_iadd hx hb dX12_alikeOf_42 ?_
        obtain ⟨v_4, ev_4, hf⟩ := x_bd hf
        refine x_cVi2 C hR hS (S_X12_lookOf  ev_4) (x_k hR 64 rfl) (by decide) rfl mf_X12_lookOf tw_1873 (Nat.le_of_ble_eq_true rfl) (Nat.le_of_ble_eq_true rfl) hl.1 (Nat.le_of_ble_eq_true rfl) dX12_alikeOf_43 ⟨Nat.le_refl _, Nat.le_refl _⟩ (fun H locs hR hS => ?_)
        refine lv_aload_n hx hb dX12_alikeOf_46 rfl (lv_at hl 0 rfl) ?_
        refine lv_iload hx hb dX12_alikeOf_47 (lv_at hl 4 rfl) ?_
        refine lv_iload hx hb dX12_alikeOf_49 (lv_at hl 5 rfl) ?_
        refine lv_iload_n hx hb dX12_alikeOf_51 rfl (lv_at hl 2 rfl) ?_
        refine lv_iadd hx hb dX12_alikeOf_52 ?_
        obtain ⟨v_5, ev_5, hf⟩ := x_bd hf
        refine x_cVi2 C hR hS (S_X12_lookOf  ev_5) (x_k hR 64 rfl) (by decide) rfl mf_X12_lookOf tw_1873 (Nat.le_of_ble_eq_true rfl) (Nat.le_of_ble_eq_true rfl) hl.1 (Nat.le_of_ble_eq_true rfl) dX12_alikeOf_53 ⟨Nat.le_refl _, Nat.le_refl _⟩ (fun H locs hR hS => ?_)
        refine lv_icmp_ne (tgt := 79) hx hb dX12_alikeOf_56 rfl (fun hc => ?_) (fun hc => ?_)
        · have hf := x_in hc hf
          exact B_X12_alikeOf_79  C ih  ls _ _ _ _ _ _ _ _  (lv_sub hl [0, 1, 2, 3, 4, 5, 6] rfl) hR hS hf
        · have hf := x_ip hc hf
          refine lv_aload_n hx hb dX12_alikeOf_59 rfl (lv_at hl 0 rfl) ?_
          refine lv_iload_n hx hb dX12_alikeOf_60 rfl (lv_at hl 1 rfl) ?_
          refine lv_iload hx hb dX12_alikeOf_61 (lv_at hl 6 rfl) ?_
          refine lv_iload_n hx hb dX12_alikeOf_63 rfl (lv_at hl 3 rfl) ?_
          obtain ⟨v_6, ev_6, hf⟩ := x_bd hf
          refine x_cVi3 C hR hS (S_X12_cardAt  ev_6) (x_k hR 64 rfl) (by decide) rfl mf_X12_cardAt tw_1927 (Nat.le_of_ble_eq_true rfl) (Nat.le_of_ble_eq_true rfl) hl.1 (Nat.le_of_ble_eq_true rfl) dX12_alikeOf_64 ⟨Nat.le_refl _, Nat.le_refl _⟩ (fun H locs hR hS => ?_)
          refine lv_if_lt (tgt := 79) hx hb dX12_alikeOf_67 rfl (fun hc => ?_) (fun hc => ?_)
          · have hf := x_ip hc hf
            exact B_X12_alikeOf_79  C ih  ls _ _ _ _ _ _ _ _  (lv_sub hl [0, 1, 2, 3, 4, 5, 6] rfl) hR hS hf
          · have hf := x_in hc hf
            refine lv_aload_n hx hb dX12_alikeOf_70 rfl (lv_at hl 0 rfl) ?_
            refine lv_iload_n hx hb dX12_alikeOf_71 rfl (lv_at hl 1 rfl) ?_
            refine lv_iload hx hb dX12_alikeOf_72 (lv_at hl 6 rfl) ?_
            refine lv_iload_n hx hb dX12_alikeOf_74 rfl (lv_at hl 3 rfl) ?_
            obtain ⟨v_7, ev_7, hf⟩ := x_bd hf
            refine x_cVi3 C hR hS (S_X12_cardAt  ev_7) (x_k hR 64 rfl) (by decide) rfl mf_X12_cardAt tw_1927 (Nat.le_of_ble_eq_true rfl) (Nat.le_of_ble_eq_true rfl) hl.1 (Nat.le_of_ble_eq_true rfl) dX12_alikeOf_75 ⟨Nat.le_refl _, Nat.le_refl _⟩ (fun H locs hR hS => ?_)
            cases hf
            exact x_iret C hR hS dX12_alikeOf_78
set_option maxRecDepth 20000 in
theorem S_X12_alikeOf {l : Launch} {O : XO} {K : XK} {h : XH} {v1 : Int32} {v2 : Int32} {v3 : Int32}  {r : Int32}  (hf : f_X12_alikeOf (oX O) h v1 v2 v3 = some r) : x_M l O K yX12_alikeOf cX12_alikeOf 7 (some .int) 3 68 h [.ref (oX O + 64), .int v1, .int v2, .int v3] (some (.int r)) h := by
  refine x_enter (by decide) (Nat.le_of_ble_eq_true rfl) (fun p e s m args below meth c C hR ls hl => ?_)
  have hS : va_S (oA O) s.heap s.heap [] := va_S.rf
  have hx := C.1
  have hb := C.2.1
  have hl : lv_has ls 7 [(0, .ref (oX O + 64)), (1, .int v1), (2, .int v2), (3, .int v3)] := hl
  rw [f_X12_alikeOf] at hf
  refine lv_aload_n hx hb dX12_alikeOf_0 rfl (lv_at hl 0 rfl) ?_
  refine lv_iload_n hx hb dX12_alikeOf_1 rfl (lv_at hl 1 rfl) ?_
  refine lv_iconst (v := 4) hx hb dX12_alikeOf_2 rfl ?_
  obtain ⟨v_1, ev_1, hf⟩ := x_bd hf
  refine x_cVi2 C hR hS (S_X12_of  ev_1) (x_k hR 64 rfl) (by decide) rfl mf_X12_of tw_1806 (Nat.le_of_ble_eq_true rfl) (Nat.le_of_ble_eq_true rfl) hl.1 (Nat.le_of_ble_eq_true rfl) dX12_alikeOf_3 ⟨Nat.le_refl _, Nat.le_refl _⟩ (fun H locs hR hS => ?_)
  refine lv_istore (lv' := [(4, _), (0, _), (1, _), (2, _), (3, _)]) hx hb dX12_alikeOf_6 hl (Nat.le_of_ble_eq_true rfl) rfl (fun ls hl => ?_)
  refine lv_aload_n hx hb dX12_alikeOf_8 rfl (lv_at hl 1 rfl) ?_
  refine lv_iload_n hx hb dX12_alikeOf_9 rfl (lv_at hl 2 rfl) ?_
  refine lv_iconst (v := 5) hx hb dX12_alikeOf_10 rfl ?_
  obtain ⟨v_2, ev_2, hf⟩ := x_bd hf
  refine x_cVi2 C hR hS (S_X12_of  ev_2) (x_k hR 64 rfl) (by decide) rfl mf_X12_of tw_1806 (Nat.le_of_ble_eq_true rfl) (Nat.le_of_ble_eq_true rfl) hl.1 (Nat.le_of_ble_eq_true rfl) dX12_alikeOf_11 ⟨Nat.le_refl _, Nat.le_refl _⟩ (fun H locs hR hS => ?_)
  refine lv_istore (lv' := [(5, _), (4, _), (0, _), (1, _), (2, _), (3, _)]) hx hb dX12_alikeOf_14 hl (Nat.le_of_ble_eq_true rfl) rfl (fun ls hl => ?_)
  refine lv_iconst (v := 0) hx hb dX12_alikeOf_16 rfl ?_
  refine lv_istore (lv' := [(6, _), (5, _), (4, _), (0, _), (1, _), (2, _), (3, _)]) hx hb dX12_alikeOf_17 hl (Nat.le_of_ble_eq_true rfl) rfl (fun ls hl => ?_)
  exact B_X12_alikeOf_19  C  x_FU ls _ _ _ _ _ _ _ _  (lv_sub hl [3, 4, 5, 6, 2, 1, 0] rfl) hR hS hf
def f_X12_slip (x : Nat) (h : XH) (v1 : Int32) (v2 : Int32) (v3 : Int32) : Option Int32 := Option.bind (f_X12_of x h v1 6) (fun v_1 => if v_1 = 0 then none else if v_1 = 0 then none else if v3 = 2 then Option.bind (f_X12_ghostOf x h v1 (v2 / v_1) (x_rem v2 v_1)) (fun v_12 => some v_12) else if v3 = 3 then Option.bind (f_X12_alikeOf x h v1 (v2 / v_1) (x_rem v2 v_1)) (fun v_11 => some v_11) else if v3 = 4 then Option.bind (f_X12_cardAt x h v1 (v2 / v_1) ((x_rem v2 v_1) + 1)) (fun v_7 => x_let ((if v_7 < 0 then 0 else ((x_rem v2 v_1) + 1)) : Int32) (fun t9 => if t9 = (x_rem v2 v_1) then some (-1) else Option.bind (f_X12_cardAt x h v1 (v2 / v_1) t9) (fun v_10 => some v_10))) else Option.bind (f_X12_cardAt x h v1 ((v2 / v_1) + 1) (x_rem v2 v_1)) (fun v_4 => if v_4 < 0 then Option.bind (f_X12_cardAt x h v1 ((v2 / v_1) - 1) (x_rem v2 v_1)) (fun v_5 => some v_5) else Option.bind (f_X12_cardAt x h v1 ((v2 / v_1) + 1) (x_rem v2 v_1)) (fun v_6 => some v_6)))
set_option maxRecDepth 20000 in
theorem S_X12_slip {l : Launch} {O : XO} {K : XK} {h : XH} {v1 : Int32} {v2 : Int32} {v3 : Int32}  {r : Int32}  (hf : f_X12_slip (oX O) h v1 v2 v3 = some r) : x_M l O K yX12_slip cX12_slip 8 (some .int) 4 96 h [.ref (oX O + 64), .int v1, .int v2, .int v3] (some (.int r)) h := by
  refine x_enter (by decide) (Nat.le_of_ble_eq_true rfl) (fun p e s m args below meth c C hR ls hl => ?_)
  have hS : va_S (oA O) s.heap s.heap [] := va_S.rf
  have hx := C.1
  have hb := C.2.1
  have hl : lv_has ls 8 [(0, .ref (oX O + 64)), (1, .int v1), (2, .int v2), (3, .int v3)] := hl
  rw [f_X12_slip] at hf
  refine lv_aload_n hx hb dX12_slip_0 rfl (lv_at hl 0 rfl) ?_
  refine lv_iload_n hx hb dX12_slip_1 rfl (lv_at hl 1 rfl) ?_
  refine lv_bipush (v := 6) hx hb dX12_slip_2 rfl ?_
  obtain ⟨v_1, ev_1, hf⟩ := x_bd hf
  refine x_cVi2 C hR hS (S_X12_of  ev_1) (x_k hR 64 rfl) (by decide) rfl mf_X12_of tw_1806 (Nat.le_of_ble_eq_true rfl) (Nat.le_of_ble_eq_true rfl) hl.1 (Nat.le_of_ble_eq_true rfl) dX12_slip_4 ⟨Nat.le_refl _, Nat.le_refl _⟩ (fun H locs hR hS => ?_)
  refine lv_istore (lv' := [(4, _), (0, _), (1, _), (2, _), (3, _)]) hx hb dX12_slip_7 hl (Nat.le_of_ble_eq_true rfl) rfl (fun ls hl => ?_)
  refine lv_iload_n hx hb dX12_slip_9 rfl (lv_at hl 3 rfl) ?_
  refine lv_iload hx hb dX12_slip_10 (lv_at hl 0 rfl) ?_
  obtain ⟨g2, hf⟩ := x_gn hf
  refine lv_idiv hx hb dX12_slip_12 g2 ?_
  refine lv_istore (lv' := [(5, _), (4, _), (0, _), (1, _), (2, _), (3, _)]) hx hb dX12_slip_13 hl (Nat.le_of_ble_eq_true rfl) rfl (fun ls hl => ?_)
  refine lv_iload_n hx hb dX12_slip_15 rfl (lv_at hl 4 rfl) ?_
  refine lv_iload hx hb dX12_slip_16 (lv_at hl 1 rfl) ?_
  obtain ⟨g3, hf⟩ := x_gn hf
  refine lv_irem hx hb dX12_slip_18 g3 ?_
  refine lv_istore (lv' := [(6, _), (5, _), (4, _), (0, _), (1, _), (2, _), (3, _)]) hx hb dX12_slip_19 hl (Nat.le_of_ble_eq_true rfl) rfl (fun ls hl => ?_)
  refine lv_iload_n hx hb dX12_slip_21 rfl (lv_at hl 6 rfl) ?_
  refine lv_iconst (v := 2) hx hb dX12_slip_22 rfl ?_
  refine lv_icmp_ne (tgt := 36) hx hb dX12_slip_23 rfl (fun hc => ?_) (fun hc => ?_)
  · have hf := x_in hc hf
    refine lv_iload_n hx hb dX12_slip_36 rfl (lv_at hl 6 rfl) ?_
    refine lv_iconst (v := 3) hx hb dX12_slip_37 rfl ?_
    refine lv_icmp_ne (tgt := 51) hx hb dX12_slip_38 rfl (fun hc => ?_) (fun hc => ?_)
    · have hf := x_in hc hf
      refine lv_iload_n hx hb dX12_slip_51 rfl (lv_at hl 6 rfl) ?_
      refine lv_iconst (v := 4) hx hb dX12_slip_52 rfl ?_
      refine lv_icmp_ne (tgt := 101) hx hb dX12_slip_53 rfl (fun hc => ?_) (fun hc => ?_)
      · have hf := x_in hc hf
        refine lv_aload_n hx hb dX12_slip_101 rfl (lv_at hl 3 rfl) ?_
        refine lv_iload_n hx hb dX12_slip_102 rfl (lv_at hl 4 rfl) ?_
        refine lv_iload hx hb dX12_slip_103 (lv_at hl 1 rfl) ?_
        refine lv_iconst (v := 1) hx hb dX12_slip_105 rfl ?_
        refine lv_iadd hx hb dX12_slip_106 ?_
        refine lv_iload hx hb dX12_slip_107 (lv_at hl 0 rfl) ?_
        obtain ⟨v_4, ev_4, hf⟩ := x_bd hf
        refine x_cVi3 C hR hS (S_X12_cardAt  ev_4) (x_k hR 64 rfl) (by decide) rfl mf_X12_cardAt tw_1927 (Nat.le_of_ble_eq_true rfl) (Nat.le_of_ble_eq_true rfl) hl.1 (Nat.le_of_ble_eq_true rfl) dX12_slip_109 ⟨Nat.le_refl _, Nat.le_refl _⟩ (fun H locs hR hS => ?_)
        refine lv_if_lt (tgt := 129) hx hb dX12_slip_112 rfl (fun hc => ?_) (fun hc => ?_)
        · have hf := x_ip hc hf
          refine lv_aload_n hx hb dX12_slip_129 rfl (lv_at hl 3 rfl) ?_
          refine lv_iload_n hx hb dX12_slip_130 rfl (lv_at hl 4 rfl) ?_
          refine lv_iload hx hb dX12_slip_131 (lv_at hl 1 rfl) ?_
          refine lv_iconst (v := 1) hx hb dX12_slip_133 rfl ?_
          refine lv_isub hx hb dX12_slip_134 ?_
          refine lv_iload hx hb dX12_slip_135 (lv_at hl 0 rfl) ?_
          obtain ⟨v_5, ev_5, hf⟩ := x_bd hf
          refine x_cVi3 C hR hS (S_X12_cardAt  ev_5) (x_k hR 64 rfl) (by decide) rfl mf_X12_cardAt tw_1927 (Nat.le_of_ble_eq_true rfl) (Nat.le_of_ble_eq_true rfl) hl.1 (Nat.le_of_ble_eq_true rfl) dX12_slip_137 ⟨Nat.le_refl _, Nat.le_refl _⟩ (fun H locs hR hS => ?_)
          cases hf
          exact x_iret C hR hS dX12_slip_140
        · have hf := x_in hc hf
          refine lv_aload_n hx hb dX12_slip_115 rfl (lv_at hl 3 rfl) ?_
          refine lv_iload_n hx hb dX12_slip_116 rfl (lv_at hl 4 rfl) ?_
          refine lv_iload hx hb dX12_slip_117 (lv_at hl 1 rfl) ?_
          refine lv_iconst (v := 1) hx hb dX12_slip_119 rfl ?_
          refine lv_iadd hx hb dX12_slip_120 ?_
          refine lv_iload hx hb dX12_slip_121 (lv_at hl 0 rfl) ?_
          obtain ⟨v_6, ev_6, hf⟩ := x_bd hf
          refine x_cVi3 C hR hS (S_X12_cardAt  ev_6) (x_k hR 64 rfl) (by decide) rfl mf_X12_cardAt tw_1927 (Nat.le_of_ble_eq_true rfl) (Nat.le_of_ble_eq_true rfl) hl.1 (Nat.le_of_ble_eq_true rfl) dX12_slip_123 ⟨Nat.le_refl _, Nat.le_refl _⟩ (fun H locs hR hS => ?_)
          refine lv_goto (tgt := 140) hx hb dX12_slip_126 rfl ?_
          cases hf
          exact x_iret C hR hS dX12_slip_140
      · have hf := x_ip hc hf
        refine lv_aload_n hx hb dX12_slip_56 rfl (lv_at hl 3 rfl) ?_
        refine lv_iload_n hx hb dX12_slip_57 rfl (lv_at hl 4 rfl) ?_
        refine lv_iload hx hb dX12_slip_58 (lv_at hl 1 rfl) ?_
        refine lv_iload hx hb dX12_slip_60 (lv_at hl 0 rfl) ?_
        refine lv_iconst (v := 1) hx hb dX12_slip_62 rfl ?_
        refine lv_iadd hx hb dX12_slip_63 ?_
        obtain ⟨v_7, ev_7, hf⟩ := x_bd hf
        refine x_cVi3 C hR hS (S_X12_cardAt  ev_7) (x_k hR 64 rfl) (by decide) rfl mf_X12_cardAt tw_1927 (Nat.le_of_ble_eq_true rfl) (Nat.le_of_ble_eq_true rfl) hl.1 (Nat.le_of_ble_eq_true rfl) dX12_slip_64 ⟨Nat.le_refl _, Nat.le_refl _⟩ (fun H locs hR hS => ?_)
        have kM8 : ∀ (ls : Array Slot) (H : Heap) (locs : List Loc), lv_has ls 8 [(0, .ref (oX O + 64)), (1, .int v1), (5, .int (v2 / v_1)), (6, .int (x_rem v2 v_1))] → x_R O K h H → va_S (oA O) s.heap H locs → W p l e (x_rm 4 96) s m args below meth c H locs 0 0 (MQ below (x_Qc O K h (some (.int r))) args s 0 0 (oA O)) (F0 m 78 ls [.int (if v_7 < 0 then 0 else ((x_rem v2 v_1) + 1))]) := by
          intro ls H locs hl hR hS
          obtain ⟨t9, et9, hf⟩ := x_lt hf
          refine x_nmi et9 ?_
          refine lv_istore (lv' := [(7, _), (0, _), (1, _), (5, _), (6, _)]) hx hb dX12_slip_78 hl (Nat.le_of_ble_eq_true rfl) rfl (fun ls hl => ?_)
          refine lv_iload hx hb dX12_slip_80 (lv_at hl 0 rfl) ?_
          refine lv_iload hx hb dX12_slip_82 (lv_at hl 4 rfl) ?_
          refine lv_icmp_ne (tgt := 91) hx hb dX12_slip_84 rfl (fun hc => ?_) (fun hc => ?_)
          · have hf := x_in hc hf
            refine lv_aload_n hx hb dX12_slip_91 rfl (lv_at hl 1 rfl) ?_
            refine lv_iload_n hx hb dX12_slip_92 rfl (lv_at hl 2 rfl) ?_
            refine lv_iload hx hb dX12_slip_93 (lv_at hl 3 rfl) ?_
            refine lv_iload hx hb dX12_slip_95 (lv_at hl 0 rfl) ?_
            obtain ⟨v_10, ev_10, hf⟩ := x_bd hf
            refine x_cVi3 C hR hS (S_X12_cardAt  ev_10) (x_k hR 64 rfl) (by decide) rfl mf_X12_cardAt tw_1927 (Nat.le_of_ble_eq_true rfl) (Nat.le_of_ble_eq_true rfl) hl.1 (Nat.le_of_ble_eq_true rfl) dX12_slip_97 ⟨Nat.le_refl _, Nat.le_refl _⟩ (fun H locs hR hS => ?_)
            cases hf
            exact x_iret C hR hS dX12_slip_100
          · have hf := x_ip hc hf
            refine lv_iconst (v := (-1)) hx hb dX12_slip_87 rfl ?_
            refine lv_goto (tgt := 100) hx hb dX12_slip_88 rfl ?_
            cases hf
            exact x_iret C hR hS dX12_slip_100
        refine lv_if_lt (tgt := 77) hx hb dX12_slip_67 rfl (fun hc => ?_) (fun hc => ?_)
        · try simp only [if_pos hc] at kM8
          refine lv_iconst (v := 0) hx hb dX12_slip_77 rfl ?_
          exact kM8 ls _ _ (lv_sub hl [3, 4, 1, 0] rfl) hR hS
        · try simp only [if_neg hc] at kM8
          refine lv_iload hx hb dX12_slip_70 (lv_at hl 0 rfl) ?_
          refine lv_iconst (v := 1) hx hb dX12_slip_72 rfl ?_
          refine lv_iadd hx hb dX12_slip_73 ?_
          refine lv_goto (tgt := 78) hx hb dX12_slip_74 rfl ?_
          exact kM8 ls _ _ (lv_sub hl [3, 4, 1, 0] rfl) hR hS
    · have hf := x_ip hc hf
      refine lv_aload_n hx hb dX12_slip_41 rfl (lv_at hl 3 rfl) ?_
      refine lv_iload_n hx hb dX12_slip_42 rfl (lv_at hl 4 rfl) ?_
      refine lv_iload hx hb dX12_slip_43 (lv_at hl 1 rfl) ?_
      refine lv_iload hx hb dX12_slip_45 (lv_at hl 0 rfl) ?_
      obtain ⟨v_11, ev_11, hf⟩ := x_bd hf
      refine x_cVi3 C hR hS (S_X12_alikeOf  ev_11) (x_k hR 64 rfl) (by decide) rfl mf_X12_alikeOf tw_1931 (Nat.le_of_ble_eq_true rfl) (Nat.le_of_ble_eq_true rfl) hl.1 (Nat.le_of_ble_eq_true rfl) dX12_slip_47 ⟨Nat.le_refl _, Nat.le_refl _⟩ (fun H locs hR hS => ?_)
      cases hf
      exact x_iret C hR hS dX12_slip_50
  · have hf := x_ip hc hf
    refine lv_aload_n hx hb dX12_slip_26 rfl (lv_at hl 3 rfl) ?_
    refine lv_iload_n hx hb dX12_slip_27 rfl (lv_at hl 4 rfl) ?_
    refine lv_iload hx hb dX12_slip_28 (lv_at hl 1 rfl) ?_
    refine lv_iload hx hb dX12_slip_30 (lv_at hl 0 rfl) ?_
    obtain ⟨v_12, ev_12, hf⟩ := x_bd hf
    refine x_cVi3 C hR hS (S_X12_ghostOf  ev_12) (x_k hR 64 rfl) (by decide) rfl mf_X12_ghostOf tw_1923 (Nat.le_of_ble_eq_true rfl) (Nat.le_of_ble_eq_true rfl) hl.1 (Nat.le_of_ble_eq_true rfl) dX12_slip_32 ⟨Nat.le_refl _, Nat.le_refl _⟩ (fun H locs hR hS => ?_)
    cases hf
    exact x_iret C hR hS dX12_slip_35
def f_X12_kindOf_31 (x : Nat) (h : XH) : Nat → Int32 → Int32 → Int32 → Int32 → Option Int32
  | 0, _, _, _, _ => none
  | n + 1, v1, v2, v3, v4 => if 6 ≤ v4 then some 6 else Option.bind (f_X12_slip x h v1 v2 v4) (fun v_3 => if v_3 = v3 then some v4 else f_X12_kindOf_31 x h n v1 v2 v3 (v4 + 1))
def f_X12_kindOf (x : Nat) (h : XH) (v1 : Int32) (v2 : Int32) : Option Int32 := Option.bind (f_X12_of x h v1 (29 + v2)) (fun v_1 => Option.bind (f_X12_cardOf x h v1 v2) (fun v_2 => if v_1 = v_2 then some 0 else if 0 ≤ v_1 then f_X12_kindOf_31 x h x_FU v1 v2 v_1 2 else some 1))
set_option maxRecDepth 20000 in
theorem B_X12_kindOf_31 {p : Program} {l : Launch} {e : Env} {s : State} {m : MethodId} {args : Array Value} {below : List Frame} {meth : Method} {c : Code} {O : XO} {K : XK} {h : XH} {r : Int32}   (C : x_C p s m args meth c O cX12_kindOf 5 RX12 (some .int))   : ∀ (n : Nat) (ls : Array Slot) (H : Heap) (locs : List Loc) (v1 : Int32) (v2 : Int32) (v3 : Int32) (v4 : Int32) (hl : lv_has ls 5 [(0, .ref (oX O + 64)), (1, .int v1), (2, .int v2), (3, .int v3), (4, .int v4)]) (hR : x_R O K h H) (hS : va_S (oA O) s.heap H locs) (hf : f_X12_kindOf_31 (oX O) h n v1 v2 v3 v4 = some r), W p l e (x_rm 5 123) s m args below meth c H locs 0 0 (MQ below (x_Qc O K h (some (.int r))) args s 0 0 (oA O)) (F0 m 31 ls []) := by
  have hx := C.1
  have hb := C.2.1
  intro n
  induction n with
  | zero =>
    intro ls H locs v1 v2 v3 v4 hl hR hS hf
    rw [f_X12_kindOf_31] at hf
    cases hf
  | succ n ih =>
    intro ls H locs v1 v2 v3 v4 hl hR hS hf
    rw [f_X12_kindOf_31] at hf
    refine lv_iload hx hb dX12_kindOf_31 (lv_at hl 4 rfl) ?_
    refine lv_bipush (v := 6) hx hb dX12_kindOf_33 rfl ?_
    refine lv_icmp_ge (tgt := 59) hx hb dX12_kindOf_35 rfl (fun hc => ?_) (fun hc => ?_)
    · have hf := x_ip hc hf
      refine lv_bipush (v := 6) hx hb dX12_kindOf_59 rfl ?_
      cases hf
      exact x_iret C hR hS dX12_kindOf_61
    · have hf := x_in hc hf
      refine lv_aload_n hx hb dX12_kindOf_38 rfl (lv_at hl 0 rfl) ?_
      refine lv_iload_n hx hb dX12_kindOf_39 rfl (lv_at hl 1 rfl) ?_
      refine lv_iload_n hx hb dX12_kindOf_40 rfl (lv_at hl 2 rfl) ?_
      refine lv_iload hx hb dX12_kindOf_41 (lv_at hl 4 rfl) ?_
      obtain ⟨v_3, ev_3, hf⟩ := x_bd hf
      refine x_cVi3 C hR hS (S_X12_slip  ev_3) (x_k hR 64 rfl) (by decide) rfl mf_X12_slip tw_1919 (Nat.le_of_ble_eq_true rfl) (Nat.le_of_ble_eq_true rfl) hl.1 (Nat.le_of_ble_eq_true rfl) dX12_kindOf_43 ⟨Nat.le_refl _, Nat.le_refl _⟩ (fun H locs hR hS => ?_)
      refine lv_iload_n hx hb dX12_kindOf_46 rfl (lv_at hl 3 rfl) ?_
      refine lv_icmp_ne (tgt := 53) hx hb dX12_kindOf_47 rfl (fun hc => ?_) (fun hc => ?_)
      · have hf := x_in hc hf
        refine lv_iinc (k := 4) (v := _ + 1) (lv' := [(4, _), (0, _), (1, _), (2, _), (3, _)]) hx hb dX12_kindOf_53 hl rfl (x_inc 1 1 rfl _) (Nat.le_of_ble_eq_true rfl) rfl (fun ls hl => ?_)
        refine lv_goto (tgt := 31) hx hb dX12_kindOf_56 rfl ?_
        exact ih ls _ _ _ _ _ _  (lv_sub hl [1, 2, 3, 4, 0] rfl) hR hS hf
      · have hf := x_ip hc hf
        refine lv_iload hx hb dX12_kindOf_50 (lv_at hl 4 rfl) ?_
        cases hf
        exact x_iret C hR hS dX12_kindOf_52
set_option maxRecDepth 20000 in
theorem S_X12_kindOf {l : Launch} {O : XO} {K : XK} {h : XH} {v1 : Int32} {v2 : Int32}  {r : Int32}  (hf : f_X12_kindOf (oX O) h v1 v2 = some r) : x_M l O K yX12_kindOf cX12_kindOf 5 (some .int) 5 123 h [.ref (oX O + 64), .int v1, .int v2] (some (.int r)) h := by
  refine x_enter (by decide) (Nat.le_of_ble_eq_true rfl) (fun p e s m args below meth c C hR ls hl => ?_)
  have hS : va_S (oA O) s.heap s.heap [] := va_S.rf
  have hx := C.1
  have hb := C.2.1
  have hl : lv_has ls 5 [(0, .ref (oX O + 64)), (1, .int v1), (2, .int v2)] := hl
  rw [f_X12_kindOf] at hf
  refine lv_aload_n hx hb dX12_kindOf_0 rfl (lv_at hl 0 rfl) ?_
  refine lv_iload_n hx hb dX12_kindOf_1 rfl (lv_at hl 1 rfl) ?_
  refine lv_bipush (v := 29) hx hb dX12_kindOf_2 rfl ?_
  refine lv_iload_n hx hb dX12_kindOf_4 rfl (lv_at hl 2 rfl) ?_
  refine lv_iadd hx hb dX12_kindOf_5 ?_
  obtain ⟨v_1, ev_1, hf⟩ := x_bd hf
  refine x_cVi2 C hR hS (S_X12_of  ev_1) (x_k hR 64 rfl) (by decide) rfl mf_X12_of tw_1806 (Nat.le_of_ble_eq_true rfl) (Nat.le_of_ble_eq_true rfl) hl.1 (Nat.le_of_ble_eq_true rfl) dX12_kindOf_6 ⟨Nat.le_refl _, Nat.le_refl _⟩ (fun H locs hR hS => ?_)
  refine lv_istore_n (lv' := [(3, _), (0, _), (1, _), (2, _)]) hx hb dX12_kindOf_9 rfl hl (Nat.le_of_ble_eq_true rfl) rfl (fun ls hl => ?_)
  refine lv_iload_n hx hb dX12_kindOf_10 rfl (lv_at hl 0 rfl) ?_
  refine lv_aload_n hx hb dX12_kindOf_11 rfl (lv_at hl 1 rfl) ?_
  refine lv_iload_n hx hb dX12_kindOf_12 rfl (lv_at hl 2 rfl) ?_
  refine lv_iload_n hx hb dX12_kindOf_13 rfl (lv_at hl 3 rfl) ?_
  obtain ⟨v_2, ev_2, hf⟩ := x_bd hf
  refine x_cVi2 C hR hS (S_X12_cardOf  ev_2) (x_k hR 64 rfl) (by decide) rfl mf_X12_cardOf tw_1810 (Nat.le_of_ble_eq_true rfl) (Nat.le_of_ble_eq_true rfl) hl.1 (Nat.le_of_ble_eq_true rfl) dX12_kindOf_14 ⟨Nat.le_refl _, Nat.le_refl _⟩ (fun H locs hR hS => ?_)
  refine lv_icmp_ne (tgt := 22) hx hb dX12_kindOf_17 rfl (fun hc => ?_) (fun hc => ?_)
  · have hf := x_in hc hf
    refine lv_iload_n hx hb dX12_kindOf_22 rfl (lv_at hl 0 rfl) ?_
    refine lv_if_ge (tgt := 28) hx hb dX12_kindOf_23 rfl (fun hc => ?_) (fun hc => ?_)
    · have hf := x_ip hc hf
      refine lv_iconst (v := 2) hx hb dX12_kindOf_28 rfl ?_
      refine lv_istore (lv' := [(4, _), (3, _), (0, _), (1, _), (2, _)]) hx hb dX12_kindOf_29 hl (Nat.le_of_ble_eq_true rfl) rfl (fun ls hl => ?_)
      exact B_X12_kindOf_31  C  x_FU ls _ _ _ _ _ _  (lv_sub hl [2, 3, 4, 1, 0] rfl) hR hS hf
    · have hf := x_in hc hf
      refine lv_iconst (v := 1) hx hb dX12_kindOf_26 rfl ?_
      cases hf
      exact x_iret C hR hS dX12_kindOf_27
  · have hf := x_ip hc hf
    refine lv_iconst (v := 0) hx hb dX12_kindOf_20 rfl ?_
    cases hf
    exact x_iret C hR hS dX12_kindOf_21
def f_X12_say_60 (x : Nat) (h : XH) : Option (Int32 × XH) := some (0, h)
def f_X12_say (x : Nat) (h : XH) (v1 : Int32) (v2 : Int32) (v3 : Int32) : Option (Int32 × XH) := x_let (x_i h (x + 64) 0 0) (fun h1 => Option.bind (f_X12_noPlace x h1 v1 v2) (fun v_2 => Option.bind (f_X12_throwsIf x h1 (if v_2 = 0 then (if v3 = (-1) then 0 else (if (f_X12_noCard h1 v3) = 0 then 0 else 1)) else 1) 1) (fun q4 => if q4.1 = 0 then Option.bind (f_X12_isPut x q4.2 v1) (fun v_5 => Option.bind (f_X12_throwsIf x q4.2 (if v_5 = 0 then 1 else 0) 2) (fun q7 => if q7.1 = 0 then Option.bind (f_X12_sets x q7.2 v1 (29 + v2) v3) (fun h8 => Option.bind (f_X12_kindOf x h8 v1 v2) (fun v_9 => some (v_9, h8))) else f_X12_say_60 x q7.2)) else f_X12_say_60 x q4.2)))
set_option maxRecDepth 20000 in
theorem B_X12_say_60 {p : Program} {l : Launch} {e : Env} {s : State} {m : MethodId} {args : Array Value} {below : List Frame} {meth : Method} {c : Code} {O : XO} {K : XK} {r : Int32} {h' : XH}   (C : x_C p s m args meth c O cX12_say 4 RX12 (some .int))   (ls : Array Slot) (H : Heap) (locs : List Loc) (h : XH) (hl : lv_has ls 4 []) (hR : x_R O K h H) (hS : va_S (oA O) s.heap H locs) (hf : f_X12_say_60 (oX O) h = some (r, h')) : W p l e (x_rm 6 147) s m args below meth c H locs 0 0 (MQ below (x_Qc O K h' (some (.int r))) args s 0 0 (oA O)) (F0 m 60 ls []) := by
  have hx := C.1
  have hb := C.2.1
  rw [f_X12_say_60] at hf
  refine lv_iconst (v := 0) hx hb dX12_say_60 rfl ?_
  cases hf
  exact x_iret C hR hS dX12_say_61
set_option maxRecDepth 20000 in
theorem S_X12_say {l : Launch} {O : XO} {K : XK} {h : XH} {v1 : Int32} {v2 : Int32} {v3 : Int32}  {r : Int32} {h' : XH}  (hf : f_X12_say (oX O) h v1 v2 v3 = some (r, h')) : x_M l O K yX12_say cX12_say 4 (some .int) 6 147 h [.ref (oX O + 64), .int v1, .int v2, .int v3] (some (.int r)) h' := by
  refine x_enter (by decide) (Nat.le_of_ble_eq_true rfl) (fun p e s m args below meth c C hR ls hl => ?_)
  have hS : va_S (oA O) s.heap s.heap [] := va_S.rf
  have hx := C.1
  have hb := C.2.1
  have hl : lv_has ls 4 [(0, .ref (oX O + 64)), (1, .int v1), (2, .int v2), (3, .int v3)] := hl
  rw [f_X12_say] at hf
  refine lv_aload_n hx hb dX12_say_0 rfl (lv_at hl 0 rfl) ?_
  refine lv_iconst (v := 0) hx hb dX12_say_1 rfl ?_
  obtain ⟨h1, eh1, hf⟩ := x_lt hf
  refine pf_12_0 C hR hS (x_k hR 64 rfl) tw_1543 dX12_say_2 (fun H locs hR hS => ?_)
  rw [← eh1] at hR
  refine lv_aload_n hx hb dX12_say_5 rfl (lv_at hl 0 rfl) ?_
  refine lv_aload_n hx hb dX12_say_6 rfl (lv_at hl 0 rfl) ?_
  refine lv_iload_n hx hb dX12_say_7 rfl (lv_at hl 1 rfl) ?_
  refine lv_iload_n hx hb dX12_say_8 rfl (lv_at hl 2 rfl) ?_
  obtain ⟨v_2, ev_2, hf⟩ := x_bd hf
  refine x_cVi2 C hR hS (S_X12_noPlace  ev_2) (x_k hR 64 rfl) (by decide) rfl mf_X12_noPlace tw_1798 (Nat.le_of_ble_eq_true rfl) (Nat.le_of_ble_eq_true rfl) hl.1 (Nat.le_of_ble_eq_true rfl) dX12_say_9 ⟨Nat.le_refl _, Nat.le_refl _⟩ (fun H locs hR hS => ?_)
  have kM3 : ∀ (ls : Array Slot) (H : Heap) (locs : List Loc), lv_has ls 4 [(0, .ref (oX O + 64)), (1, .int v1), (2, .int v2), (3, .int v3)] → x_R O K h1 H → va_S (oA O) s.heap H locs → W p l e (x_rm 6 147) s m args below meth c H locs 0 0 (MQ below (x_Qc O K h' (some (.int r))) args s 0 0 (oA O)) (F0 m 32 ls [.int (if v_2 = 0 then (if v3 = (-1) then 0 else (if (f_X12_noCard h1 v3) = 0 then 0 else 1)) else 1), .ref (oX O + 64)]) := by
    intro ls H locs hl hR hS
    refine lv_iconst (v := 1) hx hb dX12_say_32 rfl ?_
    obtain ⟨q4, eq4, hf⟩ := x_bd hf
    refine x_cVi2 C hR hS (S_X12_throwsIf  eq4) (x_k hR 64 rfl) (by decide) rfl mf_X12_throwsIf tw_1741 (Nat.le_of_ble_eq_true rfl) (Nat.le_of_ble_eq_true rfl) hl.1 (Nat.le_of_ble_eq_true rfl) dX12_say_33 ⟨Nat.le_refl _, Nat.le_refl _⟩ (fun H locs hR hS => ?_)
    refine lv_if_ne (tgt := 60) hx hb dX12_say_36 rfl (fun hc => ?_) (fun hc => ?_)
    · have hf := x_in hc hf
      exact B_X12_say_60  C   ls _ _ q4.2  (lv_sub hl [] rfl) hR hS hf
    · have hf := x_ip hc hf
      refine lv_aload_n hx hb dX12_say_39 rfl (lv_at hl 0 rfl) ?_
      refine lv_aload_n hx hb dX12_say_40 rfl (lv_at hl 0 rfl) ?_
      refine lv_iload_n hx hb dX12_say_41 rfl (lv_at hl 1 rfl) ?_
      obtain ⟨v_5, ev_5, hf⟩ := x_bd hf
      refine x_cVi1 C hR hS (S_X12_isPut  ev_5) (x_k hR 64 rfl) (by decide) rfl mf_X12_isPut tw_1818 (Nat.le_of_ble_eq_true rfl) (Nat.le_of_ble_eq_true rfl) hl.1 (Nat.le_of_ble_eq_true rfl) dX12_say_42 ⟨Nat.le_refl _, Nat.le_refl _⟩ (fun H locs hR hS => ?_)
      have kM6 : ∀ (ls : Array Slot) (H : Heap) (locs : List Loc), lv_has ls 4 [(0, .ref (oX O + 64)), (1, .int v1), (2, .int v2), (3, .int v3)] → x_R O K q4.2 H → va_S (oA O) s.heap H locs → W p l e (x_rm 6 147) s m args below meth c H locs 0 0 (MQ below (x_Qc O K h' (some (.int r))) args s 0 0 (oA O)) (F0 m 53 ls [.int (if v_5 = 0 then 1 else 0), .ref (oX O + 64)]) := by
        intro ls H locs hl hR hS
        refine lv_iconst (v := 2) hx hb dX12_say_53 rfl ?_
        obtain ⟨q7, eq7, hf⟩ := x_bd hf
        refine x_cVi2 C hR hS (S_X12_throwsIf  eq7) (x_k hR 64 rfl) (by decide) rfl mf_X12_throwsIf tw_1741 (Nat.le_of_ble_eq_true rfl) (Nat.le_of_ble_eq_true rfl) hl.1 (Nat.le_of_ble_eq_true rfl) dX12_say_54 ⟨Nat.le_refl _, Nat.le_refl _⟩ (fun H locs hR hS => ?_)
        refine lv_if_eq (tgt := 62) hx hb dX12_say_57 rfl (fun hc => ?_) (fun hc => ?_)
        · have hf := x_ip hc hf
          refine lv_aload_n hx hb dX12_say_62 rfl (lv_at hl 0 rfl) ?_
          refine lv_iload_n hx hb dX12_say_63 rfl (lv_at hl 1 rfl) ?_
          refine lv_bipush (v := 29) hx hb dX12_say_64 rfl ?_
          refine lv_iload_n hx hb dX12_say_66 rfl (lv_at hl 2 rfl) ?_
          refine lv_iadd hx hb dX12_say_67 ?_
          refine lv_iload_n hx hb dX12_say_68 rfl (lv_at hl 3 rfl) ?_
          obtain ⟨h8, eh8, hf⟩ := x_bd hf
          refine x_cVv3 C hR hS (S_X12_sets  eh8) (x_k hR 64 rfl) (by decide) rfl mf_X12_sets tw_1790 (Nat.le_of_ble_eq_true rfl) (Nat.le_of_ble_eq_true rfl) hl.1 (Nat.le_of_ble_eq_true rfl) dX12_say_69 ⟨Nat.le_refl _, Nat.le_refl _⟩ (fun H locs hR hS => ?_)
          refine lv_aload_n hx hb dX12_say_72 rfl (lv_at hl 0 rfl) ?_
          refine lv_iload_n hx hb dX12_say_73 rfl (lv_at hl 1 rfl) ?_
          refine lv_iload_n hx hb dX12_say_74 rfl (lv_at hl 2 rfl) ?_
          obtain ⟨v_9, ev_9, hf⟩ := x_bd hf
          refine x_cVi2 C hR hS (S_X12_kindOf  ev_9) (x_k hR 64 rfl) (by decide) rfl mf_X12_kindOf tw_1915 (Nat.le_of_ble_eq_true rfl) (Nat.le_of_ble_eq_true rfl) hl.1 (Nat.le_of_ble_eq_true rfl) dX12_say_75 ⟨Nat.le_refl _, Nat.le_refl _⟩ (fun H locs hR hS => ?_)
          cases hf
          exact x_iret C hR hS dX12_say_78
        · have hf := x_in hc hf
          exact B_X12_say_60  C   ls _ _ q7.2  (lv_sub hl [] rfl) hR hS hf
      refine lv_if_ne (tgt := 52) hx hb dX12_say_45 rfl (fun hc => ?_) (fun hc => ?_)
      · try simp only [if_neg hc] at kM6
        refine lv_iconst (v := 0) hx hb dX12_say_52 rfl ?_
        exact kM6 ls _ _ (lv_sub hl [0, 1, 2, 3] rfl) hR hS
      · try simp only [if_pos hc] at kM6
        refine lv_iconst (v := 1) hx hb dX12_say_48 rfl ?_
        refine lv_goto (tgt := 53) hx hb dX12_say_49 rfl ?_
        exact kM6 ls _ _ (lv_sub hl [0, 1, 2, 3] rfl) hR hS
  refine lv_if_ne (tgt := 27) hx hb dX12_say_12 rfl (fun hc => ?_) (fun hc => ?_)
  · try simp only [if_neg hc] at kM3
    refine lv_iconst (v := 1) hx hb dX12_say_27 rfl ?_
    refine lv_goto (tgt := 32) hx hb dX12_say_28 rfl ?_
    exact kM3 ls _ _ (lv_sub hl [0, 1, 2, 3] rfl) hR hS
  · try simp only [if_pos hc] at kM3
    refine lv_iload_n hx hb dX12_say_15 rfl (lv_at hl 3 rfl) ?_
    refine lv_iconst (v := (-1)) hx hb dX12_say_16 rfl ?_
    refine lv_icmp_eq (tgt := 31) hx hb dX12_say_17 rfl (fun hc => ?_) (fun hc => ?_)
    · try simp only [if_pos hc] at kM3
      refine lv_iconst (v := 0) hx hb dX12_say_31 rfl ?_
      exact kM3 ls _ _ (lv_sub hl [0, 1, 2, 3] rfl) hR hS
    · try simp only [if_neg hc] at kM3
      refine lv_iload_n hx hb dX12_say_20 rfl (lv_at hl 3 rfl) ?_
      refine x_cSi1 C hR hS (S_X12_noCard  rfl) mf_X12_noCard tw_1753 (Nat.le_of_ble_eq_true rfl) (Nat.le_of_ble_eq_true rfl) hl.1 (Nat.le_of_ble_eq_true rfl) dX12_say_21 ⟨Nat.le_refl _, Nat.le_refl _⟩ (fun H locs hR hS => ?_)
      refine lv_if_eq (tgt := 31) hx hb dX12_say_24 rfl (fun hc => ?_) (fun hc => ?_)
      · try simp only [if_pos hc] at kM3
        refine lv_iconst (v := 0) hx hb dX12_say_31 rfl ?_
        exact kM3 ls _ _ (lv_sub hl [0, 1, 2, 3] rfl) hR hS
      · try simp only [if_neg hc] at kM3
        refine lv_iconst (v := 1) hx hb dX12_say_27 rfl ?_
        refine lv_goto (tgt := 32) hx hb dX12_say_28 rfl ?_
        exact kM3 ls _ _ (lv_sub hl [0, 1, 2, 3] rfl) hR hS
def f_X12_kind_40 (x : Nat) (h : XH) : Option (Int32 × XH) := some (0, h)
def f_X12_kind (x : Nat) (h : XH) (v1 : Int32) (v2 : Int32) : Option (Int32 × XH) := x_let (x_i h (x + 64) 0 0) (fun h1 => Option.bind (f_X12_noPlace x h1 v1 v2) (fun v_2 => Option.bind (f_X12_throwsIf x h1 v_2 1) (fun q3 => if q3.1 = 0 then Option.bind (f_X12_isPut x q3.2 v1) (fun v_4 => Option.bind (f_X12_throwsIf x q3.2 (if v_4 = 0 then 1 else 0) 2) (fun q6 => if q6.1 = 0 then Option.bind (f_X12_kindOf x q6.2 v1 v2) (fun v_7 => some (v_7, q6.2)) else f_X12_kind_40 x q6.2)) else f_X12_kind_40 x q3.2)))
set_option maxRecDepth 20000 in
theorem B_X12_kind_40 {p : Program} {l : Launch} {e : Env} {s : State} {m : MethodId} {args : Array Value} {below : List Frame} {meth : Method} {c : Code} {O : XO} {K : XK} {r : Int32} {h' : XH}   (C : x_C p s m args meth c O cX12_kind 3 RX12 (some .int))   (ls : Array Slot) (H : Heap) (locs : List Loc) (h : XH) (hl : lv_has ls 3 []) (hR : x_R O K h H) (hS : va_S (oA O) s.heap H locs) (hf : f_X12_kind_40 (oX O) h = some (r, h')) : W p l e (x_rm 6 147) s m args below meth c H locs 0 0 (MQ below (x_Qc O K h' (some (.int r))) args s 0 0 (oA O)) (F0 m 40 ls []) := by
  have hx := C.1
  have hb := C.2.1
  rw [f_X12_kind_40] at hf
  refine lv_iconst (v := 0) hx hb dX12_kind_40 rfl ?_
  refine lv_goto (tgt := 50) hx hb dX12_kind_41 rfl ?_
  cases hf
  exact x_iret C hR hS dX12_kind_50
set_option maxRecDepth 20000 in
theorem S_X12_kind {l : Launch} {O : XO} {K : XK} {h : XH} {v1 : Int32} {v2 : Int32}  {r : Int32} {h' : XH}  (hf : f_X12_kind (oX O) h v1 v2 = some (r, h')) : x_M l O K yX12_kind cX12_kind 3 (some .int) 6 147 h [.ref (oX O + 64), .int v1, .int v2] (some (.int r)) h' := by
  refine x_enter (by decide) (Nat.le_of_ble_eq_true rfl) (fun p e s m args below meth c C hR ls hl => ?_)
  have hS : va_S (oA O) s.heap s.heap [] := va_S.rf
  have hx := C.1
  have hb := C.2.1
  have hl : lv_has ls 3 [(0, .ref (oX O + 64)), (1, .int v1), (2, .int v2)] := hl
  rw [f_X12_kind] at hf
  refine lv_aload_n hx hb dX12_kind_0 rfl (lv_at hl 0 rfl) ?_
  refine lv_iconst (v := 0) hx hb dX12_kind_1 rfl ?_
  obtain ⟨h1, eh1, hf⟩ := x_lt hf
  refine pf_12_0 C hR hS (x_k hR 64 rfl) tw_1543 dX12_kind_2 (fun H locs hR hS => ?_)
  rw [← eh1] at hR
  refine lv_aload_n hx hb dX12_kind_5 rfl (lv_at hl 0 rfl) ?_
  refine lv_aload_n hx hb dX12_kind_6 rfl (lv_at hl 0 rfl) ?_
  refine lv_iload_n hx hb dX12_kind_7 rfl (lv_at hl 1 rfl) ?_
  refine lv_iload_n hx hb dX12_kind_8 rfl (lv_at hl 2 rfl) ?_
  obtain ⟨v_2, ev_2, hf⟩ := x_bd hf
  refine x_cVi2 C hR hS (S_X12_noPlace  ev_2) (x_k hR 64 rfl) (by decide) rfl mf_X12_noPlace tw_1798 (Nat.le_of_ble_eq_true rfl) (Nat.le_of_ble_eq_true rfl) hl.1 (Nat.le_of_ble_eq_true rfl) dX12_kind_9 ⟨Nat.le_refl _, Nat.le_refl _⟩ (fun H locs hR hS => ?_)
  refine lv_iconst (v := 1) hx hb dX12_kind_12 rfl ?_
  obtain ⟨q3, eq3, hf⟩ := x_bd hf
  refine x_cVi2 C hR hS (S_X12_throwsIf  eq3) (x_k hR 64 rfl) (by decide) rfl mf_X12_throwsIf tw_1741 (Nat.le_of_ble_eq_true rfl) (Nat.le_of_ble_eq_true rfl) hl.1 (Nat.le_of_ble_eq_true rfl) dX12_kind_13 ⟨Nat.le_refl _, Nat.le_refl _⟩ (fun H locs hR hS => ?_)
  refine lv_if_ne (tgt := 40) hx hb dX12_kind_16 rfl (fun hc => ?_) (fun hc => ?_)
  · have hf := x_in hc hf
    exact B_X12_kind_40  C   ls _ _ q3.2  (lv_sub hl [] rfl) hR hS hf
  · have hf := x_ip hc hf
    refine lv_aload_n hx hb dX12_kind_19 rfl (lv_at hl 0 rfl) ?_
    refine lv_aload_n hx hb dX12_kind_20 rfl (lv_at hl 0 rfl) ?_
    refine lv_iload_n hx hb dX12_kind_21 rfl (lv_at hl 1 rfl) ?_
    obtain ⟨v_4, ev_4, hf⟩ := x_bd hf
    refine x_cVi1 C hR hS (S_X12_isPut  ev_4) (x_k hR 64 rfl) (by decide) rfl mf_X12_isPut tw_1818 (Nat.le_of_ble_eq_true rfl) (Nat.le_of_ble_eq_true rfl) hl.1 (Nat.le_of_ble_eq_true rfl) dX12_kind_22 ⟨Nat.le_refl _, Nat.le_refl _⟩ (fun H locs hR hS => ?_)
    have kM5 : ∀ (ls : Array Slot) (H : Heap) (locs : List Loc), lv_has ls 3 [(0, .ref (oX O + 64)), (1, .int v1), (2, .int v2)] → x_R O K q3.2 H → va_S (oA O) s.heap H locs → W p l e (x_rm 6 147) s m args below meth c H locs 0 0 (MQ below (x_Qc O K h' (some (.int r))) args s 0 0 (oA O)) (F0 m 33 ls [.int (if v_4 = 0 then 1 else 0), .ref (oX O + 64)]) := by
      intro ls H locs hl hR hS
      refine lv_iconst (v := 2) hx hb dX12_kind_33 rfl ?_
      obtain ⟨q6, eq6, hf⟩ := x_bd hf
      refine x_cVi2 C hR hS (S_X12_throwsIf  eq6) (x_k hR 64 rfl) (by decide) rfl mf_X12_throwsIf tw_1741 (Nat.le_of_ble_eq_true rfl) (Nat.le_of_ble_eq_true rfl) hl.1 (Nat.le_of_ble_eq_true rfl) dX12_kind_34 ⟨Nat.le_refl _, Nat.le_refl _⟩ (fun H locs hR hS => ?_)
      refine lv_if_eq (tgt := 44) hx hb dX12_kind_37 rfl (fun hc => ?_) (fun hc => ?_)
      · have hf := x_ip hc hf
        refine lv_aload_n hx hb dX12_kind_44 rfl (lv_at hl 0 rfl) ?_
        refine lv_iload_n hx hb dX12_kind_45 rfl (lv_at hl 1 rfl) ?_
        refine lv_iload_n hx hb dX12_kind_46 rfl (lv_at hl 2 rfl) ?_
        obtain ⟨v_7, ev_7, hf⟩ := x_bd hf
        refine x_cVi2 C hR hS (S_X12_kindOf  ev_7) (x_k hR 64 rfl) (by decide) rfl mf_X12_kindOf tw_1915 (Nat.le_of_ble_eq_true rfl) (Nat.le_of_ble_eq_true rfl) hl.1 (Nat.le_of_ble_eq_true rfl) dX12_kind_47 ⟨Nat.le_refl _, Nat.le_refl _⟩ (fun H locs hR hS => ?_)
        cases hf
        exact x_iret C hR hS dX12_kind_50
      · have hf := x_in hc hf
        exact B_X12_kind_40  C   ls _ _ q6.2  (lv_sub hl [] rfl) hR hS hf
    refine lv_if_ne (tgt := 32) hx hb dX12_kind_25 rfl (fun hc => ?_) (fun hc => ?_)
    · try simp only [if_neg hc] at kM5
      refine lv_iconst (v := 0) hx hb dX12_kind_32 rfl ?_
      exact kM5 ls _ _ (lv_sub hl [0, 1, 2] rfl) hR hS
    · try simp only [if_pos hc] at kM5
      refine lv_iconst (v := 1) hx hb dX12_kind_28 rfl ?_
      refine lv_goto (tgt := 33) hx hb dX12_kind_29 rfl ?_
      exact kM5 ls _ _ (lv_sub hl [0, 1, 2] rfl) hR hS
def f_X12_kindsOf_5 (x : Nat) (h : XH) : Nat → Int32 → Int32 → Int32 → Int32 → Option Int32
  | 0, _, _, _, _ => none
  | n + 1, v1, v2, v3, v4 => Option.bind (f_X12_of x h v1 2) (fun v_1 => if v_1 ≤ v4 then some v3 else Option.bind (f_X12_kindOf x h v1 v4) (fun v_2 => x_let ((v3 + (if v_2 = v2 then 1 else 0)) : Int32) (fun t4 => f_X12_kindsOf_5 x h n v1 v2 t4 (v4 + 1))))
def f_X12_kindsOf (x : Nat) (h : XH) (v1 : Int32) (v2 : Int32) : Option Int32 := f_X12_kindsOf_5 x h x_FU v1 v2 0 0
set_option maxRecDepth 20000 in
theorem B_X12_kindsOf_5 {p : Program} {l : Launch} {e : Env} {s : State} {m : MethodId} {args : Array Value} {below : List Frame} {meth : Method} {c : Code} {O : XO} {K : XK} {h : XH} {r : Int32}   (C : x_C p s m args meth c O cX12_kindsOf 5 RX12 (some .int))   : ∀ (n : Nat) (ls : Array Slot) (H : Heap) (locs : List Loc) (v1 : Int32) (v2 : Int32) (v3 : Int32) (v4 : Int32) (hl : lv_has ls 5 [(0, .ref (oX O + 64)), (1, .int v1), (2, .int v2), (3, .int v3), (4, .int v4)]) (hR : x_R O K h H) (hS : va_S (oA O) s.heap H locs) (hf : f_X12_kindsOf_5 (oX O) h n v1 v2 v3 v4 = some r), W p l e (x_rm 6 147) s m args below meth c H locs 0 0 (MQ below (x_Qc O K h (some (.int r))) args s 0 0 (oA O)) (F0 m 5 ls []) := by
  have hx := C.1
  have hb := C.2.1
  intro n
  induction n with
  | zero =>
    intro ls H locs v1 v2 v3 v4 hl hR hS hf
    rw [f_X12_kindsOf_5] at hf
    cases hf
  | succ n ih =>
    intro ls H locs v1 v2 v3 v4 hl hR hS hf
    rw [f_X12_kindsOf_5] at hf
    refine lv_iload hx hb dX12_kindsOf_5 (lv_at hl 4 rfl) ?_
    refine lv_aload_n hx hb dX12_kindsOf_7 rfl (lv_at hl 0 rfl) ?_
    refine lv_iload_n hx hb dX12_kindsOf_8 rfl (lv_at hl 1 rfl) ?_
    refine lv_iconst (v := 2) hx hb dX12_kindsOf_9 rfl ?_
    obtain ⟨v_1, ev_1, hf⟩ := x_bd hf
    refine x_cVi2 C hR hS (S_X12_of  ev_1) (x_k hR 64 rfl) (by decide) rfl mf_X12_of tw_1806 (Nat.le_of_ble_eq_true rfl) (Nat.le_of_ble_eq_true rfl) hl.1 (Nat.le_of_ble_eq_true rfl) dX12_kindsOf_10 ⟨Nat.le_refl _, Nat.le_refl _⟩ (fun H locs hR hS => ?_)
    refine lv_icmp_ge (tgt := 41) hx hb dX12_kindsOf_13 rfl (fun hc => ?_) (fun hc => ?_)
    · have hf := x_ip hc hf
      refine lv_iload_n hx hb dX12_kindsOf_41 rfl (lv_at hl 3 rfl) ?_
      cases hf
      exact x_iret C hR hS dX12_kindsOf_42
    · have hf := x_in hc hf
      refine lv_iload_n hx hb dX12_kindsOf_16 rfl (lv_at hl 3 rfl) ?_
      refine lv_aload_n hx hb dX12_kindsOf_17 rfl (lv_at hl 0 rfl) ?_
      refine lv_iload_n hx hb dX12_kindsOf_18 rfl (lv_at hl 1 rfl) ?_
      refine lv_iload hx hb dX12_kindsOf_19 (lv_at hl 4 rfl) ?_
      obtain ⟨v_2, ev_2, hf⟩ := x_bd hf
      refine x_cVi2 C hR hS (S_X12_kindOf  ev_2) (x_k hR 64 rfl) (by decide) rfl mf_X12_kindOf tw_1915 (Nat.le_of_ble_eq_true rfl) (Nat.le_of_ble_eq_true rfl) hl.1 (Nat.le_of_ble_eq_true rfl) dX12_kindsOf_21 ⟨Nat.le_refl _, Nat.le_refl _⟩ (fun H locs hR hS => ?_)
      refine lv_iload_n hx hb dX12_kindsOf_24 rfl (lv_at hl 2 rfl) ?_
      have kM3 : ∀ (ls : Array Slot) (H : Heap) (locs : List Loc), lv_has ls 5 [(0, .ref (oX O + 64)), (1, .int v1), (2, .int v2), (4, .int v4)] → x_R O K h H → va_S (oA O) s.heap H locs → W p l e (x_rm 6 147) s m args below meth c H locs 0 0 (MQ below (x_Qc O K h (some (.int r))) args s 0 0 (oA O)) (F0 m 33 ls [.int (if v_2 = v2 then 1 else 0), .int v3]) := by
        intro ls H locs hl hR hS
        refine lv_iadd hx hb dX12_kindsOf_33 ?_
        obtain ⟨t4, et4, hf⟩ := x_lt hf
        refine x_nmi et4 ?_
        refine lv_istore_n (lv' := [(3, _), (0, _), (1, _), (2, _), (4, _)]) hx hb dX12_kindsOf_34 rfl hl (Nat.le_of_ble_eq_true rfl) rfl (fun ls hl => ?_)
        refine lv_iinc (k := 4) (v := _ + 1) (lv' := [(4, _), (3, _), (0, _), (1, _), (2, _)]) hx hb dX12_kindsOf_35 hl rfl (x_inc 1 1 rfl _) (Nat.le_of_ble_eq_true rfl) rfl (fun ls hl => ?_)
        refine lv_goto (tgt := 5) hx hb dX12_kindsOf_38 rfl ?_
        exact ih ls _ _ _ _ _ _  (lv_sub hl [2, 3, 4, 1, 0] rfl) hR hS hf
      refine lv_icmp_ne (tgt := 32) hx hb dX12_kindsOf_25 rfl (fun hc => ?_) (fun hc => ?_)
      · try simp only [if_neg hc] at kM3
        refine lv_iconst (v := 0) hx hb dX12_kindsOf_32 rfl ?_
        exact kM3 ls _ _ (lv_sub hl [0, 1, 2, 4] rfl) hR hS
      · try simp only [if_pos hc] at kM3
        refine lv_iconst (v := 1) hx hb dX12_kindsOf_28 rfl ?_
        refine lv_goto (tgt := 33) hx hb dX12_kindsOf_29 rfl ?_
        exact kM3 ls _ _ (lv_sub hl [0, 1, 2, 4] rfl) hR hS
set_option maxRecDepth 20000 in
theorem S_X12_kindsOf {l : Launch} {O : XO} {K : XK} {h : XH} {v1 : Int32} {v2 : Int32}  {r : Int32}  (hf : f_X12_kindsOf (oX O) h v1 v2 = some r) : x_M l O K yX12_kindsOf cX12_kindsOf 5 (some .int) 6 147 h [.ref (oX O + 64), .int v1, .int v2] (some (.int r)) h := by
  refine x_enter (by decide) (Nat.le_of_ble_eq_true rfl) (fun p e s m args below meth c C hR ls hl => ?_)
  have hS : va_S (oA O) s.heap s.heap [] := va_S.rf
  have hx := C.1
  have hb := C.2.1
  have hl : lv_has ls 5 [(0, .ref (oX O + 64)), (1, .int v1), (2, .int v2)] := hl
  rw [f_X12_kindsOf] at hf
  refine lv_iconst (v := 0) hx hb dX12_kindsOf_0 rfl ?_
  refine lv_istore_n (lv' := [(3, _), (0, _), (1, _), (2, _)]) hx hb dX12_kindsOf_1 rfl hl (Nat.le_of_ble_eq_true rfl) rfl (fun ls hl => ?_)
  refine lv_iconst (v := 0) hx hb dX12_kindsOf_2 rfl ?_
  refine lv_istore (lv' := [(4, _), (3, _), (0, _), (1, _), (2, _)]) hx hb dX12_kindsOf_3 hl (Nat.le_of_ble_eq_true rfl) rfl (fun ls hl => ?_)
  exact B_X12_kindsOf_5  C  x_FU ls _ _ _ _ _ _  (lv_sub hl [2, 3, 4, 1, 0] rfl) hR hS hf
def f_X12_weight (h : XH) (v0 : Int32) : Int32 := (if v0 = 2 then 3 else (if v0 = 1 then 3 else (if v0 = 5 then 1 else 2)))
set_option maxRecDepth 20000 in
theorem S_X12_weight {l : Launch} {O : XO} {K : XK} {h : XH} {v0 : Int32}  {r : Int32}  (hf : f_X12_weight h v0 = r) : x_M l O K yX12_weight cX12_weight 1 (some .int) 0 0 h [.int v0] (some (.int r)) h := by
  refine x_enter (by decide) (Nat.le_of_ble_eq_true rfl) (fun p e s m args below meth c C hR ls hl => ?_)
  have hS : va_S (oA O) s.heap s.heap [] := va_S.rf
  have hx := C.1
  have hb := C.2.1
  have hl : lv_has ls 1 [(0, .int v0)] := hl
  rw [f_X12_weight] at hf
  refine lv_iload_n hx hb dX12_weight_0 rfl (lv_at hl 0 rfl) ?_
  refine lv_iconst (v := 2) hx hb dX12_weight_1 rfl ?_
  have kM1 : ∀ (ls : Array Slot) (H : Heap) (locs : List Loc), lv_has ls 1 [] → x_R O K h H → va_S (oA O) s.heap H locs → W p l e (x_rm 0 0) s m args below meth c H locs 0 0 (MQ below (x_Qc O K h (some (.int r))) args s 0 0 (oA O)) (F0 m 24 ls [.int (if v0 = 2 then 3 else (if v0 = 1 then 3 else (if v0 = 5 then 1 else 2)))]) := by
    intro ls H locs hl hR hS
    cases hf
    exact x_iret C hR hS dX12_weight_24
  refine lv_icmp_eq (tgt := 10) hx hb dX12_weight_2 rfl (fun hc => ?_) (fun hc => ?_)
  · try simp only [if_pos hc] at kM1
    refine lv_iconst (v := 3) hx hb dX12_weight_10 rfl ?_
    refine lv_goto (tgt := 24) hx hb dX12_weight_11 rfl ?_
    exact kM1 ls _ _ (lv_sub hl [] rfl) hR hS
  · try simp only [if_neg hc] at kM1
    refine lv_iload_n hx hb dX12_weight_5 rfl (lv_at hl 0 rfl) ?_
    refine lv_iconst (v := 1) hx hb dX12_weight_6 rfl ?_
    refine lv_icmp_ne (tgt := 14) hx hb dX12_weight_7 rfl (fun hc => ?_) (fun hc => ?_)
    · try simp only [if_neg hc] at kM1
      refine lv_iload_n hx hb dX12_weight_14 rfl (lv_at hl 0 rfl) ?_
      refine lv_iconst (v := 5) hx hb dX12_weight_15 rfl ?_
      refine lv_icmp_ne (tgt := 23) hx hb dX12_weight_16 rfl (fun hc => ?_) (fun hc => ?_)
      · try simp only [if_neg hc] at kM1
        refine lv_iconst (v := 2) hx hb dX12_weight_23 rfl ?_
        exact kM1 ls _ _ (lv_sub hl [] rfl) hR hS
      · try simp only [if_pos hc] at kM1
        refine lv_iconst (v := 1) hx hb dX12_weight_19 rfl ?_
        refine lv_goto (tgt := 24) hx hb dX12_weight_20 rfl ?_
        exact kM1 ls _ _ (lv_sub hl [] rfl) hR hS
    · try simp only [if_pos hc] at kM1
      refine lv_iconst (v := 3) hx hb dX12_weight_10 rfl ?_
      refine lv_goto (tgt := 24) hx hb dX12_weight_11 rfl ?_
      exact kM1 ls _ _ (lv_sub hl [] rfl) hR hS
def f_X12_weightOf_19 (x : Nat) (h : XH) (v3 : Int32) : Option Int32 := some (f_X12_weight h v3)
def f_X12_weightOf (x : Nat) (h : XH) (v1 : Int32) (v2 : Int32) (v3 : Int32) : Option Int32 := if v3 = 1 then f_X12_weightOf_19 x h v3 else Option.bind (f_X12_slip x h v1 v2 v3) (fun v_1 => some (if 0 ≤ v_1 then (f_X12_weight h v3) else 0))
set_option maxRecDepth 20000 in
theorem B_X12_weightOf_19 {p : Program} {l : Launch} {e : Env} {s : State} {m : MethodId} {args : Array Value} {below : List Frame} {meth : Method} {c : Code} {O : XO} {K : XK} {h : XH} {r : Int32}   (C : x_C p s m args meth c O cX12_weightOf 4 RX12 (some .int))   (ls : Array Slot) (H : Heap) (locs : List Loc) (v3 : Int32) (hl : lv_has ls 4 [(3, .int v3)]) (hR : x_R O K h H) (hS : va_S (oA O) s.heap H locs) (hf : f_X12_weightOf_19 (oX O) h v3 = some r) : W p l e (x_rm 5 123) s m args below meth c H locs 0 0 (MQ below (x_Qc O K h (some (.int r))) args s 0 0 (oA O)) (F0 m 19 ls []) := by
  have hx := C.1
  have hb := C.2.1
  rw [f_X12_weightOf_19] at hf
  refine lv_iload_n hx hb dX12_weightOf_19 rfl (lv_at hl 0 rfl) ?_
  refine x_cSi1 C hR hS (S_X12_weight  rfl) mf_X12_weight tw_1952 (Nat.le_of_ble_eq_true rfl) (Nat.le_of_ble_eq_true rfl) hl.1 (Nat.le_of_ble_eq_true rfl) dX12_weightOf_20 ⟨Nat.le_refl _, Nat.le_refl _⟩ (fun H locs hR hS => ?_)
  cases hf
  exact x_iret C hR hS dX12_weightOf_23
set_option maxRecDepth 20000 in
theorem S_X12_weightOf {l : Launch} {O : XO} {K : XK} {h : XH} {v1 : Int32} {v2 : Int32} {v3 : Int32}  {r : Int32}  (hf : f_X12_weightOf (oX O) h v1 v2 v3 = some r) : x_M l O K yX12_weightOf cX12_weightOf 4 (some .int) 5 123 h [.ref (oX O + 64), .int v1, .int v2, .int v3] (some (.int r)) h := by
  refine x_enter (by decide) (Nat.le_of_ble_eq_true rfl) (fun p e s m args below meth c C hR ls hl => ?_)
  have hS : va_S (oA O) s.heap s.heap [] := va_S.rf
  have hx := C.1
  have hb := C.2.1
  have hl : lv_has ls 4 [(0, .ref (oX O + 64)), (1, .int v1), (2, .int v2), (3, .int v3)] := hl
  rw [f_X12_weightOf] at hf
  refine lv_iload_n hx hb dX12_weightOf_0 rfl (lv_at hl 3 rfl) ?_
  refine lv_iconst (v := 1) hx hb dX12_weightOf_1 rfl ?_
  refine lv_icmp_eq (tgt := 19) hx hb dX12_weightOf_2 rfl (fun hc => ?_) (fun hc => ?_)
  · have hf := x_ip hc hf
    exact B_X12_weightOf_19  C   ls _ _ _  (lv_sub hl [3] rfl) hR hS hf
  · have hf := x_in hc hf
    refine lv_aload_n hx hb dX12_weightOf_5 rfl (lv_at hl 0 rfl) ?_
    refine lv_iload_n hx hb dX12_weightOf_6 rfl (lv_at hl 1 rfl) ?_
    refine lv_iload_n hx hb dX12_weightOf_7 rfl (lv_at hl 2 rfl) ?_
    refine lv_iload_n hx hb dX12_weightOf_8 rfl (lv_at hl 3 rfl) ?_
    obtain ⟨v_1, ev_1, hf⟩ := x_bd hf
    refine x_cVi3 C hR hS (S_X12_slip  ev_1) (x_k hR 64 rfl) (by decide) rfl mf_X12_slip tw_1919 (Nat.le_of_ble_eq_true rfl) (Nat.le_of_ble_eq_true rfl) hl.1 (Nat.le_of_ble_eq_true rfl) dX12_weightOf_9 ⟨Nat.le_refl _, Nat.le_refl _⟩ (fun H locs hR hS => ?_)
    have kM2 : ∀ (ls : Array Slot) (H : Heap) (locs : List Loc), lv_has ls 4 [] → x_R O K h H → va_S (oA O) s.heap H locs → W p l e (x_rm 5 123) s m args below meth c H locs 0 0 (MQ below (x_Qc O K h (some (.int r))) args s 0 0 (oA O)) (F0 m 23 ls [.int (if 0 ≤ v_1 then (f_X12_weight h v3) else 0)]) := by
      intro ls H locs hl hR hS
      cases hf
      exact x_iret C hR hS dX12_weightOf_23
    refine lv_if_ge (tgt := 19) hx hb dX12_weightOf_12 rfl (fun hc => ?_) (fun hc => ?_)
    · try simp only [if_pos hc] at kM2
      refine lv_iload_n hx hb dX12_weightOf_19 rfl (lv_at hl 3 rfl) ?_
      refine x_cSi1 C hR hS (S_X12_weight  rfl) mf_X12_weight tw_1952 (Nat.le_of_ble_eq_true rfl) (Nat.le_of_ble_eq_true rfl) hl.1 (Nat.le_of_ble_eq_true rfl) dX12_weightOf_20 ⟨Nat.le_refl _, Nat.le_refl _⟩ (fun H locs hR hS => ?_)
      exact kM2 ls _ _ (lv_sub hl [] rfl) hR hS
    · try simp only [if_neg hc] at kM2
      refine lv_iconst (v := 0) hx hb dX12_weightOf_15 rfl ?_
      refine lv_goto (tgt := 23) hx hb dX12_weightOf_16 rfl ?_
      exact kM2 ls _ _ (lv_sub hl [] rfl) hR hS
