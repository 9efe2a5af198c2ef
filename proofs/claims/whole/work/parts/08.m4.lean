def f_X12_plan_413 (x : Nat) (h : XH) (v9 : Int32) (v10 : Int32) : Option (Int32 × XH) := some ((if 0 ≤ v9 then v10 else (-1)), h)
def f_X12_plan_435 (x : Nat) : Nat → XH → Int32 → Int32 → Int32 → Option (Int32 × XH)
  | 0, _, _, _, _ => none
  | n + 1, h, v5, v11, v12 => if v12 < 0 then some ((-1), h) else if x_b v12 8 = true then if (h.1 (x + 74) v12.toNatClampNeg) = v5 then if x_b 0 6927 = true then if (h.1 (x + 65) (0 : Int32).toNatClampNeg) = 0 then none else some ((x_rem v11 (h.1 (x + 65) (0 : Int32).toNatClampNeg)), h) else none else if x_b 0 6927 = true then if (h.1 (x + 65) (0 : Int32).toNatClampNeg) = 0 then none else x_let ((v11 / (h.1 (x + 65) (0 : Int32).toNatClampNeg)) : Int32) (fun t13 => f_X12_plan_435 x n h v5 t13 (v12 + (-1))) else none else none
def f_X12_plan_338 (k249 : XH → Int32 → Int32 → Int32 → Int32 → Int32 → Int32 → Option (Int32 × XH)) (k275 : XH → Int32 → Int32 → Int32 → Int32 → Int32 → Int32 → Int32 → Int32 → Int32 → Int32 → Int32 → Option (Int32 × XH)) (x : Nat) (h : XH) (v5 : Int32) (v7 : Int32) (v8 : Int32) (v9 : Int32) (v10 : Int32) (v11 : Int32) (v12 : Int32) (v13 : Int32) (v14 : Int32) (v16 : Int32) (v17 : Int32) (s0 : Int32) : Option (Int32 × XH) := if x_b ((6 * v16) + v17) 48 = true then x_let ((v13 + (h.1 (x + 75) ((6 * v16) + v17).toNatClampNeg)) : Int32) (fun t24 => k275 h v5 v7 v8 v9 v10 v11 (v12 ||| (x_shl 1 v17)) t24 v14 s0 (v16 + (-1))) else none
def f_X12_plan_337 (k249 : XH → Int32 → Int32 → Int32 → Int32 → Int32 → Int32 → Option (Int32 × XH)) (k275 : XH → Int32 → Int32 → Int32 → Int32 → Int32 → Int32 → Int32 → Int32 → Int32 → Int32 → Int32 → Option (Int32 × XH)) (x : Nat) (h : XH) (v5 : Int32) (v7 : Int32) (v8 : Int32) (v9 : Int32) (v10 : Int32) (v11 : Int32) (v12 : Int32) (v13 : Int32) (v14 : Int32) (v16 : Int32) (v17 : Int32) : Option (Int32 × XH) := f_X12_plan_338 k249 k275 x h v5 v7 v8 v9 v10 v11 v12 v13 v14 v16 v17 0
def f_X12_plan_275 (k249 : XH → Int32 → Int32 → Int32 → Int32 → Int32 → Int32 → Option (Int32 × XH)) (x : Nat) : Nat → XH → Int32 → Int32 → Int32 → Int32 → Int32 → Int32 → Int32 → Int32 → Int32 → Int32 → Int32 → Option (Int32 × XH)
  | 0, _, _, _, _, _, _, _, _, _, _, _, _ => none
  | n + 1, h, v5, v7, v8, v9, v10, v11, v12, v13, v14, v15, v16 => if v16 < 0 then k249 h v5 v7 v8 (if v15 = 0 then v9 else (if v10 < v13 then v11 else v9)) (if v15 = 0 then v10 else (if v10 < v13 then v13 else v10)) (v11 + 1) else if x_b 0 6927 = true then if (h.1 (x + 65) (0 : Int32).toNatClampNeg) = 0 then none else x_let ((x_rem v14 (h.1 (x + 65) (0 : Int32).toNatClampNeg)) : Int32) (fun t19 => if x_b 0 6927 = true then if (h.1 (x + 65) (0 : Int32).toNatClampNeg) = 0 then none else x_let ((v14 / (h.1 (x + 65) (0 : Int32).toNatClampNeg)) : Int32) (fun t22 => if v15 = 0 then f_X12_plan_337 k249 (f_X12_plan_275 k249 x n) x h v5 v7 v8 v9 v10 v11 v12 v13 t22 v16 t19 else if ((x_shr v12 t19) &&& 1) = 0 then if x_b ((6 * v16) + t19) 48 = true then x_let ((if (h.1 (x + 75) ((6 * v16) + t19).toNatClampNeg) < 0 then 0 else 1) : Int32) (fun t27 => if x_b ((6 * v16) + t19) 48 = true then x_let ((v13 + (h.1 (x + 75) ((6 * v16) + t19).toNatClampNeg)) : Int32) (fun t29 => f_X12_plan_275 k249 x n h v5 v7 v8 v9 v10 v11 (v12 ||| (x_shl 1 t19)) t29 t22 t27 (v16 + (-1))) else none) else none else f_X12_plan_337 k249 (f_X12_plan_275 k249 x n) x h v5 v7 v8 v9 v10 v11 v12 v13 t22 v16 t19) else none) else none
def f_X12_plan_249 (x : Nat) : Nat → XH → Int32 → Int32 → Int32 → Int32 → Int32 → Int32 → Option (Int32 × XH)
  | 0, _, _, _, _, _, _, _ => none
  | n + 1, h, v5, v7, v8, v9, v10, v11 => if v8 ≤ v11 then if v9 < 0 then f_X12_plan_413 x h v9 v10 else if v5 = (-1) then f_X12_plan_413 x h v9 v10 else f_X12_plan_435 x x_FU h v5 v9 (v7 - 1) else f_X12_plan_275 (f_X12_plan_249 x n) x x_FU h v5 v7 v8 v9 v10 v11 0 0 v11 1 (v7 - 1)
def f_X12_plan_216 (x : Nat) : Nat → XH → Int32 → Int32 → Int32 → Int32 → Option (Int32 × XH)
  | 0, _, _, _, _, _ => none
  | n + 1, h, v5, v7, v8, v9 => if v7 ≤ v9 then f_X12_plan_249 x x_FU h v5 v7 v8 (-1) (-1) 0 else if x_b 0 6927 = true then x_let ((v8 * (h.1 (x + 65) (0 : Int32).toNatClampNeg)) : Int32) (fun t31 => f_X12_plan_216 x n h v5 v7 t31 (v9 + 1)) else none
def f_X12_plan_198 (x : Nat) (h : XH) (v5 : Int32) (v6 : Int32) (v7 : Int32) : Option (Int32 × XH) := Option.bind (f_X12_throwsIf x h v6 2) (fun q8 => if q8.1 = 0 then f_X12_plan_216 x x_FU q8.2 v5 v7 1 0 else some (0, q8.2))
def f_X12_plan_192 (k99 : XH → Int32 → Int32 → Int32 → Int32 → Int32 → Int32 → Int32 → Int32 → Option (Int32 × XH)) (x : Nat) (h : XH) (v1 : Int32) (v2 : Int32) (v3 : Int32) (v4 : Int32) (v5 : Int32) (v6 : Int32) (v7 : Int32) (v8 : Int32) : Option (Int32 × XH) := k99 h v1 v2 v3 v4 v5 v6 v7 (v8 + 1)
def f_X12_plan_138 (k99 : XH → Int32 → Int32 → Int32 → Int32 → Int32 → Int32 → Int32 → Int32 → Option (Int32 × XH)) (x : Nat) : Nat → XH → Int32 → Int32 → Int32 → Int32 → Int32 → Int32 → Int32 → Int32 → Int32 → Option (Int32 × XH)
  | 0, _, _, _, _, _, _, _, _, _, _ => none
  | n + 1, h, v1, v2, v3, v4, v5, v6, v7, v8, v9 => if x_b 0 6927 = true then if (h.1 (x + 65) (0 : Int32).toNatClampNeg) ≤ v9 then if x_b v7 8 = true then x_let (x_i h (x + 74) v7.toNatClampNeg v8) (fun h35 => f_X12_plan_192 k99 x h35 v1 v2 v3 v4 v5 v6 (v7 + 1) v8) else none else Option.bind (f_X12_awaitedAt x h v1 v8 v9 v3 v4) (fun q36 => if x_b ((6 * v7) + v9) 48 = true then x_let (x_i q36.2 (x + 75) ((6 * v7) + v9).toNatClampNeg q36.1) (fun h38 => f_X12_plan_138 k99 x n h38 v1 v2 v3 v4 v5 v6 v7 v8 (v9 + 1)) else none) else none
def f_X12_plan_99 (x : Nat) : Nat → XH → Int32 → Int32 → Int32 → Int32 → Int32 → Int32 → Int32 → Int32 → Option (Int32 × XH)
  | 0, _, _, _, _, _, _, _, _, _ => none
  | n + 1, h, v1, v2, v3, v4, v5, v6, v7, v8 => if x_b 1 6927 = true then if (h.1 (x + 65) (1 : Int32).toNatClampNeg) ≤ v8 then f_X12_plan_198 x h v5 v6 v7 else if v6 = 0 then if ((x_shr v2 v8) &&& 1) = 0 then f_X12_plan_192 (f_X12_plan_99 x n) x h v1 v2 v3 v4 v5 v6 v7 v8 else Option.bind (f_X12_isPut x h v8) (fun v_32 => f_X12_plan_138 (f_X12_plan_99 x n) x x_FU h v1 v2 v3 v4 v5 v_32 v7 v8 0) else f_X12_plan_198 x h v5 v6 v7 else none
def f_X12_plan_34 (x : Nat) (h : XH) (v1 : Int32) (v2 : Int32) (v3 : Int32) (v4 : Int32) (v5 : Int32) (s1 : Int32) : Option (Int32 × XH) := Option.bind (f_X12_throwsIf x h s1 1) (fun q3 => if q3.1 = 0 then if x_b 1 6927 = true then x_let ((if (f_X12_in q3.2 v2 0 ((x_shl 1 (q3.2.1 (x + 65) (1 : Int32).toNatClampNeg)) - 1)) = 0 then 1 else (if 5 < (f_J6_bitCount_0f7a4 q3.2 v2) then 1 else (if (f_X12_in q3.2 v3 1 3) = 0 then 1 else (if (f_X12_noSeconds q3.2 v4) = 0 then 0 else 1)))) : Int32) (fun t6 => f_X12_plan_99 x x_FU q3.2 v1 v2 v3 v4 v5 t6 0 0) else none else some (0, q3.2))
def f_X12_plan_29 (x : Nat) (h : XH) (v1 : Int32) (v2 : Int32) (v3 : Int32) (v4 : Int32) (v5 : Int32) : Option (Int32 × XH) := f_X12_plan_34 x h v1 v2 v3 v4 v5 1
def f_X12_plan_33 (x : Nat) (h : XH) (v1 : Int32) (v2 : Int32) (v3 : Int32) (v4 : Int32) (v5 : Int32) : Option (Int32 × XH) := f_X12_plan_34 x h v1 v2 v3 v4 v5 0
def f_X12_plan (x : Nat) (h : XH) (v1 : Int32) (v2 : Int32) (v3 : Int32) (v4 : Int32) (v5 : Int32) : Option (Int32 × XH) := x_let (x_i h (x + 64) 0 0) (fun h1 => Option.bind (f_X12_noLaw x h1 v1) (fun v_2 => if v_2 = 0 then if v5 = (-1) then f_X12_plan_33 x h1 v1 v2 v3 v4 v5 else Option.bind (f_X12_noPack x h1 v5) (fun v_39 => Option.bind (f_X12_throwsIf x h1 (if v_39 = 0 then 0 else 1) 1) (fun q41 => if q41.1 = 0 then if x_b 1 6927 = true then x_let ((if (f_X12_in q41.2 v2 0 ((x_shl 1 (q41.2.1 (x + 65) (1 : Int32).toNatClampNeg)) - 1)) = 0 then 1 else (if 5 < (f_J6_bitCount_0f7a4 q41.2 v2) then 1 else (if (f_X12_in q41.2 v3 1 3) = 0 then 1 else (if (f_X12_noSeconds q41.2 v4) = 0 then 0 else 1)))) : Int32) (fun t44 => f_X12_plan_99 x x_FU q41.2 v1 v2 v3 v4 v5 t44 0 0) else none else some (0, q41.2))) else f_X12_plan_29 x h1 v1 v2 v3 v4 v5))
set_option maxRecDepth 20000 in
theorem B_X12_plan_413 {p : Program} {l : Launch} {e : Env} {s : State} {m : MethodId} {args : Array Value} {below : List Frame} {meth : Method} {c : Code} {O : XO} {K : XK} {r : Int32} {h' : XH}   (C : x_C p s m args meth c O cX12_plan 18 RX12 (some .int))   (ls : Array Slot) (H : Heap) (locs : List Loc) (h : XH) (v9 : Int32) (v10 : Int32) (hl : lv_has ls 18 [(9, .int v9), (10, .int v10)]) (hR : x_R O K h H) (hS : va_S (oA O) s.heap H locs) (hf : f_X12_plan_413 (oX O) h v9 v10 = some (r, h')) : W p l e (x_rm 6 151) s m args below meth c H locs 0 0 (MQ below (x_Qc O K h' (some (.int r))) args s 0 0 (oA O)) (F0 m 413 ls []) := by
  have hx := C.1
  have hb := C.2.1
  rw [f_X12_plan_413] at hf
  refine lv_iload hx hb dX12_plan_413 (lv_at hl 0 rfl) ?_
  have kM9 : ∀ (ls : Array Slot) (H : Heap) (locs : List Loc), lv_has ls 18 [] → x_R O K h H → va_S (oA O) s.heap H locs → W p l e (x_rm 6 151) s m args below meth c H locs 0 0 (MQ below (x_Qc O K h' (some (.int r))) args s 0 0 (oA O)) (F0 m 424 ls [.int (if 0 ≤ v9 then v10 else (-1))]) := by
    intro ls H locs hl hR hS
    cases hf
    exact x_iret C hR hS dX12_plan_424
  refine lv_if_ge (tgt := 422) hx hb dX12_plan_415 rfl (fun hc => ?_) (fun hc => ?_)
  · try simp only [if_pos hc] at kM9
    refine lv_iload hx hb dX12_plan_422 (lv_at hl 1 rfl) ?_
    exact kM9 ls _ _ (lv_sub hl [] rfl) hR hS
  · try simp only [if_neg hc] at kM9
    refine lv_iconst (v := (-1)) hx hb dX12_plan_418 rfl ?_
    refine lv_goto (tgt := 424) hx hb dX12_plan_419 rfl ?_
    exact kM9 ls _ _ (lv_sub hl [] rfl) hR hS
set_option maxRecDepth 20000 in
theorem B_X12_plan_435 {p : Program} {l : Launch} {e : Env} {s : State} {m : MethodId} {args : Array Value} {below : List Frame} {meth : Method} {c : Code} {O : XO} {K : XK} {r : Int32} {h' : XH}   (C : x_C p s m args meth c O cX12_plan 18 RX12 (some .int))   : ∀ (n : Nat) (ls : Array Slot) (H : Heap) (locs : List Loc) (h : XH) (v5 : Int32) (v11 : Int32) (v12 : Int32) (hl : lv_has ls 18 [(0, .ref (oX O + 64)), (5, .int v5), (11, .int v11), (12, .int v12)]) (hR : x_R O K h H) (hS : va_S (oA O) s.heap H locs) (hf : f_X12_plan_435 (oX O) n h v5 v11 v12 = some (r, h')), W p l e (x_rm 6 151) s m args below meth c H locs 0 0 (MQ below (x_Qc O K h' (some (.int r))) args s 0 0 (oA O)) (F0 m 435 ls []) := by
  have hx := C.1
  have hb := C.2.1
  intro n
  induction n with
  | zero =>
    intro ls H locs h v5 v11 v12 hl hR hS hf
    rw [f_X12_plan_435] at hf
    cases hf
  | succ n ih =>
    intro ls H locs h v5 v11 v12 hl hR hS hf
    rw [f_X12_plan_435] at hf
    refine lv_iload hx hb dX12_plan_435 (lv_at hl 3 rfl) ?_
    refine lv_if_lt (tgt := 479) hx hb dX12_plan_437 rfl (fun hc => ?_) (fun hc => ?_)
    · have hf := x_ip hc hf
      refine lv_iconst (v := (-1)) hx hb dX12_plan_479 rfl ?_
      cases hf
      exact x_iret C hR hS dX12_plan_480
    · have hf := x_in hc hf
      refine lv_aload_n hx hb dX12_plan_440 rfl (lv_at hl 0 rfl) ?_
      refine gf_12_22 C hR (x_k hR 64 rfl) tw_1565 dX12_plan_441 ?_
      refine lv_iload hx hb dX12_plan_444 (lv_at hl 3 rfl) ?_
      obtain ⟨g10, hf⟩ := x_gd hf
      refine x_iald C hR (x_k1 (x_k hR 74 rfl)) (x_k2 (x_k hR 74 rfl) g10) dX12_plan_446 ?_
      refine lv_iload hx hb dX12_plan_447 (lv_at hl 1 rfl) ?_
      refine lv_icmp_ne (tgt := 462) hx hb dX12_plan_449 rfl (fun hc => ?_) (fun hc => ?_)
      · have hf := x_in hc hf
        refine lv_iload hx hb dX12_plan_462 (lv_at hl 2 rfl) ?_
        refine lv_aload_n hx hb dX12_plan_464 rfl (lv_at hl 0 rfl) ?_
        refine gf_12_1 C hR (x_k hR 64 rfl) tw_1544 dX12_plan_465 ?_
        refine lv_iconst (v := 0) hx hb dX12_plan_468 rfl ?_
        obtain ⟨g11, hf⟩ := x_gd hf
        refine x_iald C hR (x_k1 (x_k hR 65 rfl)) (x_k2 (x_k hR 65 rfl) g11) dX12_plan_469 ?_
        obtain ⟨g12, hf⟩ := x_gn hf
        refine lv_idiv hx hb dX12_plan_470 g12 ?_
        obtain ⟨t13, et13, hf⟩ := x_lt hf
        refine x_nmi et13 ?_
        refine lv_istore (lv' := [(11, _), (0, _), (5, _), (12, _)]) hx hb dX12_plan_471 hl (Nat.le_of_ble_eq_true rfl) rfl (fun ls hl => ?_)
        refine lv_iinc (k := 3) (v := _ + (-1)) (lv' := [(12, _), (11, _), (0, _), (5, _)]) hx hb dX12_plan_473 hl rfl (x_inc (-1) (-1) rfl _) (Nat.le_of_ble_eq_true rfl) rfl (fun ls hl => ?_)
        refine lv_goto (tgt := 435) hx hb dX12_plan_476 rfl ?_
        exact ih ls _ _ h _ _ _  (lv_sub hl [2, 3, 1, 0] rfl) hR hS hf
      · have hf := x_ip hc hf
        refine lv_iload hx hb dX12_plan_452 (lv_at hl 2 rfl) ?_
        refine lv_aload_n hx hb dX12_plan_454 rfl (lv_at hl 0 rfl) ?_
        refine gf_12_1 C hR (x_k hR 64 rfl) tw_1544 dX12_plan_455 ?_
        refine lv_iconst (v := 0) hx hb dX12_plan_458 rfl ?_
        obtain ⟨g14, hf⟩ := x_gd hf
        refine x_iald C hR (x_k1 (x_k hR 65 rfl)) (x_k2 (x_k hR 65 rfl) g14) dX12_plan_459 ?_
        obtain ⟨g15, hf⟩ := x_gn hf
        refine lv_irem hx hb dX12_plan_460 g15 ?_
        cases hf
        exact x_iret C hR hS dX12_plan_461
set_option maxRecDepth 20000 in
theorem B_X12_plan_338 {p : Program} {l : Launch} {e : Env} {s : State} {m : MethodId} {args : Array Value} {below : List Frame} {meth : Method} {c : Code} {O : XO} {K : XK} {r : Int32} {h' : XH}  {k249 : XH → Int32 → Int32 → Int32 → Int32 → Int32 → Int32 → Option (Int32 × XH)} {k275 : XH → Int32 → Int32 → Int32 → Int32 → Int32 → Int32 → Int32 → Int32 → Int32 → Int32 → Int32 → Option (Int32 × XH)} (C : x_C p s m args meth c O cX12_plan 18 RX12 (some .int)) (hk249 : ∀ (ls : Array Slot) (H : Heap) (locs : List Loc) (h : XH) (v5 : Int32) (v7 : Int32) (v8 : Int32) (v9 : Int32) (v10 : Int32) (v11 : Int32), lv_has ls 18 [(0, .ref (oX O + 64)), (5, .int v5), (7, .int v7), (8, .int v8), (9, .int v9), (10, .int v10), (11, .int v11)] → x_R O K h H → va_S (oA O) s.heap H locs → k249 h v5 v7 v8 v9 v10 v11 = some (r, h') → W p l e (x_rm 6 151) s m args below meth c H locs 0 0 (MQ below (x_Qc O K h' (some (.int r))) args s 0 0 (oA O)) (F0 m 249 ls [])) (hk275 : ∀ (ls : Array Slot) (H : Heap) (locs : List Loc) (h : XH) (v5 : Int32) (v7 : Int32) (v8 : Int32) (v9 : Int32) (v10 : Int32) (v11 : Int32) (v12 : Int32) (v13 : Int32) (v14 : Int32) (v15 : Int32) (v16 : Int32), lv_has ls 18 [(0, .ref (oX O + 64)), (5, .int v5), (7, .int v7), (8, .int v8), (9, .int v9), (10, .int v10), (11, .int v11), (12, .int v12), (13, .int v13), (14, .int v14), (15, .int v15), (16, .int v16)] → x_R O K h H → va_S (oA O) s.heap H locs → k275 h v5 v7 v8 v9 v10 v11 v12 v13 v14 v15 v16 = some (r, h') → W p l e (x_rm 6 151) s m args below meth c H locs 0 0 (MQ below (x_Qc O K h' (some (.int r))) args s 0 0 (oA O)) (F0 m 275 ls []))  (ls : Array Slot) (H : Heap) (locs : List Loc) (h : XH) (v5 : Int32) (v7 : Int32) (v8 : Int32) (v9 : Int32) (v10 : Int32) (v11 : Int32) (v12 : Int32) (v13 : Int32) (v14 : Int32) (v16 : Int32) (v17 : Int32) (s0 : Int32) (hl : lv_has ls 18 [(0, .ref (oX O + 64)), (5, .int v5), (7, .int v7), (8, .int v8), (9, .int v9), (10, .int v10), (11, .int v11), (12, .int v12), (13, .int v13), (14, .int v14), (16, .int v16), (17, .int v17)]) (hR : x_R O K h H) (hS : va_S (oA O) s.heap H locs) (hf : f_X12_plan_338 k249 k275 (oX O) h v5 v7 v8 v9 v10 v11 v12 v13 v14 v16 v17 s0 = some (r, h')) : W p l e (x_rm 6 151) s m args below meth c H locs 0 0 (MQ below (x_Qc O K h' (some (.int r))) args s 0 0 (oA O)) (F0 m 338 ls [.int s0]) := by
  have hx := C.1
  have hb := C.2.1
  rw [f_X12_plan_338] at hf
  refine lv_istore (lv' := [(15, _), (0, _), (5, _), (7, _), (8, _), (9, _), (10, _), (11, _), (12, _), (13, _), (14, _), (16, _), (17, _)]) hx hb dX12_plan_338 hl (Nat.le_of_ble_eq_true rfl) rfl (fun ls hl => ?_)
  refine lv_iload hx hb dX12_plan_340 (lv_at hl 8 rfl) ?_
  refine lv_iconst (v := 1) hx hb dX12_plan_342 rfl ?_
  refine lv_iload hx hb dX12_plan_343 (lv_at hl 12 rfl) ?_
  refine lv_ishl hx hb dX12_plan_345 ?_
  refine lv_ior hx hb dX12_plan_346 ?_
  refine lv_istore (lv' := [(12, _), (15, _), (0, _), (5, _), (7, _), (8, _), (9, _), (10, _), (11, _), (13, _), (14, _), (16, _), (17, _)]) hx hb dX12_plan_347 hl (Nat.le_of_ble_eq_true rfl) rfl (fun ls hl => ?_)
  refine lv_iload hx hb dX12_plan_349 (lv_at hl 9 rfl) ?_
  refine lv_aload_n hx hb dX12_plan_351 rfl (lv_at hl 2 rfl) ?_
  refine gf_12_23 C hR (x_k hR 64 rfl) tw_1566 dX12_plan_352 ?_
  refine lv_bipush (v := 6) hx hb dX12_plan_355 rfl ?_
  refine lv_iload hx hb dX12_plan_357 (lv_at hl 11 rfl) ?_
  refine lv_imul hx hb dX12_plan_359 ?_
  refine lv_iload hx hb dX12_plan_360 (lv_at hl 12 rfl) ?_
  refine lv_iadd hx hb dX12_plan_362 ?_
  obtain ⟨g23, hf⟩ := x_gd hf
  refine x_iald C hR (x_k1 (x_k hR 75 rfl)) (x_k2 (x_k hR 75 rfl) g23) dX12_plan_363 ?_
  refine lv_iadd hx hb dX12_plan_364 ?_
  obtain ⟨t24, et24, hf⟩ := x_lt hf
  refine x_nmi et24 ?_
  refine lv_istore (lv' := [(13, _), (12, _), (15, _), (0, _), (5, _), (7, _), (8, _), (9, _), (10, _), (11, _), (14, _), (16, _), (17, _)]) hx hb dX12_plan_365 hl (Nat.le_of_ble_eq_true rfl) rfl (fun ls hl => ?_)
  refine lv_iinc (k := 11) (v := _ + (-1)) (lv' := [(16, _), (13, _), (12, _), (15, _), (0, _), (5, _), (7, _), (8, _), (9, _), (10, _), (11, _), (14, _), (17, _)]) hx hb dX12_plan_367 hl rfl (x_inc (-1) (-1) rfl _) (Nat.le_of_ble_eq_true rfl) rfl (fun ls hl => ?_)
  refine lv_goto (tgt := 275) hx hb dX12_plan_370 rfl ?_
  exact hk275 ls _ _ h _ _ _ _ _ _ _ _ _ _ _  (lv_sub hl [4, 5, 6, 7, 8, 9, 10, 2, 1, 11, 3, 0] rfl) hR hS hf
set_option maxRecDepth 20000 in
theorem B_X12_plan_337 {p : Program} {l : Launch} {e : Env} {s : State} {m : MethodId} {args : Array Value} {below : List Frame} {meth : Method} {c : Code} {O : XO} {K : XK} {r : Int32} {h' : XH}  {k249 : XH → Int32 → Int32 → Int32 → Int32 → Int32 → Int32 → Option (Int32 × XH)} {k275 : XH → Int32 → Int32 → Int32 → Int32 → Int32 → Int32 → Int32 → Int32 → Int32 → Int32 → Int32 → Option (Int32 × XH)} (C : x_C p s m args meth c O cX12_plan 18 RX12 (some .int)) (hk249 : ∀ (ls : Array Slot) (H : Heap) (locs : List Loc) (h : XH) (v5 : Int32) (v7 : Int32) (v8 : Int32) (v9 : Int32) (v10 : Int32) (v11 : Int32), lv_has ls 18 [(0, .ref (oX O + 64)), (5, .int v5), (7, .int v7), (8, .int v8), (9, .int v9), (10, .int v10), (11, .int v11)] → x_R O K h H → va_S (oA O) s.heap H locs → k249 h v5 v7 v8 v9 v10 v11 = some (r, h') → W p l e (x_rm 6 151) s m args below meth c H locs 0 0 (MQ below (x_Qc O K h' (some (.int r))) args s 0 0 (oA O)) (F0 m 249 ls [])) (hk275 : ∀ (ls : Array Slot) (H : Heap) (locs : List Loc) (h : XH) (v5 : Int32) (v7 : Int32) (v8 : Int32) (v9 : Int32) (v10 : Int32) (v11 : Int32) (v12 : Int32) (v13 : Int32) (v14 : Int32) (v15 : Int32) (v16 : Int32), lv_has ls 18 [(0, .ref (oX O + 64)), (5, .int v5), (7, .int v7), (8, .int v8), (9, .int v9), (10, .int v10), (11, .int v11), (12, .int v12), (13, .int v13), (14, .int v14), (15, .int v15), (16, .int v16)] → x_R O K h H → va_S (oA O) s.heap H locs → k275 h v5 v7 v8 v9 v10 v11 v12 v13 v14 v15 v16 = some (r, h') → W p l e (x_rm 6 151) s m args below meth c H locs 0 0 (MQ below (x_Qc O K h' (some (.int r))) args s 0 0 (oA O)) (F0 m 275 ls []))  (ls : Array Slot) (H : Heap) (locs : List Loc) (h : XH) (v5 : Int32) (v7 : Int32) (v8 : Int32) (v9 : Int32) (v10 : Int32) (v11 : Int32) (v12 : Int32) (v13 : Int32) (v14 : Int32) (v16 : Int32) (v17 : Int32) (hl : lv_has ls 18 [(0, .ref (oX O + 64)), (5, .int v5), (7, .int v7), (8, .int v8), (9, .int v9), (10, .int v10), (11, .int v11), (12, .int v12), (13, .int v13), (14, .int v14), (16, .int v16), (17, .int v17)]) (hR : x_R O K h H) (hS : va_S (oA O) s.heap H locs) (hf : f_X12_plan_337 k249 k275 (oX O) h v5 v7 v8 v9 v10 v11 v12 v13 v14 v16 v17 = some (r, h')) : W p l e (x_rm 6 151) s m args below meth c H locs 0 0 (MQ below (x_Qc O K h' (some (.int r))) args s 0 0 (oA O)) (F0 m 337 ls []) := by
  have hx := C.1
  have hb := C.2.1
  rw [f_X12_plan_337] at hf
  refine lv_iconst (v := 0) hx hb dX12_plan_337 rfl ?_
  exact B_X12_plan_338  C hk249 hk275  ls _ _ h _ _ _ _ _ _ _ _ _ _ _ _  (lv_sub hl [0, 1, 2, 3, 4, 5, 6, 7, 8, 9, 10, 11] rfl) hR hS hf
set_option maxRecDepth 20000 in
theorem B_X12_plan_275 {p : Program} {l : Launch} {e : Env} {s : State} {m : MethodId} {args : Array Value} {below : List Frame} {meth : Method} {c : Code} {O : XO} {K : XK} {r : Int32} {h' : XH}  {k249 : XH → Int32 → Int32 → Int32 → Int32 → Int32 → Int32 → Option (Int32 × XH)} (C : x_C p s m args meth c O cX12_plan 18 RX12 (some .int)) (hk249 : ∀ (ls : Array Slot) (H : Heap) (locs : List Loc) (h : XH) (v5 : Int32) (v7 : Int32) (v8 : Int32) (v9 : Int32) (v10 : Int32) (v11 : Int32), lv_has ls 18 [(0, .ref (oX O + 64)), (5, .int v5), (7, .int v7), (8, .int v8), (9, .int v9), (10, .int v10), (11, .int v11)] → x_R O K h H → va_S (oA O) s.heap H locs → k249 h v5 v7 v8 v9 v10 v11 = some (r, h') → W p l e (x_rm 6 151) s m args below meth c H locs 0 0 (MQ below (x_Qc O K h' (some (.int r))) args s 0 0 (oA O)) (F0 m 249 ls []))  : ∀ (n : Nat) (ls : Array Slot) (H : Heap) (locs : List Loc) (h : XH) (v5 : Int32) (v7 : Int32) (v8 : Int32) (v9 : Int32) (v10 : Int32) (v11 : Int32) (v12 : Int32) (v13 : Int32) (v14 : Int32) (v15 : Int32) (v16 : Int32) (hl : lv_has ls 18 [(0, .ref (oX O + 64)), (5, .int v5), (7, .int v7), (8, .int v8), (9, .int v9), (10, .int v10), (11, .int v11), (12, .int v12), (13, .int v13), (14, .int v14), (15, .int v15), (16, .int v16)]) (hR : x_R O K h H) (hS : va_S (oA O) s.heap H locs) (hf : f_X12_plan_275 k249 (oX O) n h v5 v7 v8 v9 v10 v11 v12 v13 v14 v15 v16 = some (r, h')), W p l e (x_rm 6 151) s m args below meth c H locs 0 0 (MQ below (x_Qc O K h' (some (.int r))) args s 0 0 (oA O)) (F0 m 275 ls []) := by
  have hx := C.1
  have hb := C.2.1
  intro n
  induction n with
  | zero =>
    intro ls H locs h v5 v7 v8 v9 v10 v11 v12 v13 v14 v15 v16 hl hR hS hf
    rw [f_X12_plan_275] at hf
    cases hf
  | succ n ih =>
    intro ls H locs h v5 v7 v8 v9 v10 v11 v12 v13 v14 v15 v16 hl hR hS hf
    rw [f_X12_plan_275] at hf
    refine lv_iload hx hb dX12_plan_275 (lv_at hl 11 rfl) ?_
    refine lv_if_lt (tgt := 373) hx hb dX12_plan_277 rfl (fun hc => ?_) (fun hc => ?_)
    · have hf := x_ip hc hf
      refine lv_iload hx hb dX12_plan_373 (lv_at hl 10 rfl) ?_
      have kM16 : ∀ (ls : Array Slot) (H : Heap) (locs : List Loc), lv_has ls 18 [(0, .ref (oX O + 64)), (5, .int v5), (7, .int v7), (8, .int v8), (9, .int (if v15 = 0 then v9 else (if v10 < v13 then v11 else v9))), (10, .int (if v15 = 0 then v10 else (if v10 < v13 then v13 else v10))), (11, .int v11)] → x_R O K h H → va_S (oA O) s.heap H locs → W p l e (x_rm 6 151) s m args below meth c H locs 0 0 (MQ below (x_Qc O K h' (some (.int r))) args s 0 0 (oA O)) (F0 m 396 ls []) := by
        intro ls H locs hl hR hS
        refine lv_iinc (k := 6) (v := _ + 1) (lv' := [(11, _), (0, _), (5, _), (7, _), (8, _), (9, _), (10, _)]) hx hb dX12_plan_396 hl rfl (x_inc 1 1 rfl _) (Nat.le_of_ble_eq_true rfl) rfl (fun ls hl => ?_)
        refine lv_goto (tgt := 249) hx hb dX12_plan_399 rfl ?_
        exact hk249 ls _ _ h _ _ _ _ _ _  (lv_sub hl [1, 2, 3, 4, 5, 6, 0] rfl) hR hS hf
      refine lv_if_eq (tgt := 396) hx hb dX12_plan_375 rfl (fun hc => ?_) (fun hc => ?_)
      · try simp only [if_pos hc] at kM16
        exact kM16 ls _ _ (lv_sub hl [0, 1, 2, 3, 4, 5, 6] rfl) hR hS
      · try simp only [if_neg hc] at kM16
        refine lv_iload hx hb dX12_plan_378 (lv_at hl 8 rfl) ?_
        refine lv_iload hx hb dX12_plan_380 (lv_at hl 5 rfl) ?_
        refine lv_icmp_gt (tgt := 388) hx hb dX12_plan_382 rfl (fun hc => ?_) (fun hc => ?_)
        · try simp only [if_pos hc] at kM16
          refine lv_iload hx hb dX12_plan_388 (lv_at hl 6 rfl) ?_
          refine lv_istore (lv' := [(9, _), (0, _), (5, _), (7, _), (8, _), (10, _), (11, _), (12, _), (13, _), (14, _), (15, _), (16, _)]) hx hb dX12_plan_390 hl (Nat.le_of_ble_eq_true rfl) rfl (fun ls hl => ?_)
          refine lv_iload hx hb dX12_plan_392 (lv_at hl 8 rfl) ?_
          refine lv_istore (lv' := [(10, _), (9, _), (0, _), (5, _), (7, _), (8, _), (11, _), (12, _), (13, _), (14, _), (15, _), (16, _)]) hx hb dX12_plan_394 hl (Nat.le_of_ble_eq_true rfl) rfl (fun ls hl => ?_)
          exact kM16 ls _ _ (lv_sub hl [2, 3, 4, 5, 1, 0, 6] rfl) hR hS
        · try simp only [if_neg hc] at kM16
          refine lv_goto (tgt := 396) hx hb dX12_plan_385 rfl ?_
          exact kM16 ls _ _ (lv_sub hl [0, 1, 2, 3, 4, 5, 6] rfl) hR hS
    · have hf := x_in hc hf
      refine lv_iload hx hb dX12_plan_280 (lv_at hl 9 rfl) ?_
      refine lv_aload_n hx hb dX12_plan_282 rfl (lv_at hl 0 rfl) ?_
      refine gf_12_1 C hR (x_k hR 64 rfl) tw_1544 dX12_plan_283 ?_
      refine lv_iconst (v := 0) hx hb dX12_plan_286 rfl ?_
      obtain ⟨g17, hf⟩ := x_gd hf
      refine x_iald C hR (x_k1 (x_k hR 65 rfl)) (x_k2 (x_k hR 65 rfl) g17) dX12_plan_287 ?_
      obtain ⟨g18, hf⟩ := x_gn hf
      refine lv_irem hx hb dX12_plan_288 g18 ?_
      obtain ⟨t19, et19, hf⟩ := x_lt hf
      refine x_nmi et19 ?_
      refine lv_istore (lv' := [(17, _), (0, _), (5, _), (7, _), (8, _), (9, _), (10, _), (11, _), (12, _), (13, _), (14, _), (15, _), (16, _)]) hx hb dX12_plan_289 hl (Nat.le_of_ble_eq_true rfl) rfl (fun ls hl => ?_)
      refine lv_iload hx hb dX12_plan_291 (lv_at hl 10 rfl) ?_
      refine lv_aload_n hx hb dX12_plan_293 rfl (lv_at hl 1 rfl) ?_
      refine gf_12_1 C hR (x_k hR 64 rfl) tw_1544 dX12_plan_294 ?_
      refine lv_iconst (v := 0) hx hb dX12_plan_297 rfl ?_
      obtain ⟨g20, hf⟩ := x_gd hf
      refine x_iald C hR (x_k1 (x_k hR 65 rfl)) (x_k2 (x_k hR 65 rfl) g20) dX12_plan_298 ?_
      obtain ⟨g21, hf⟩ := x_gn hf
      refine lv_idiv hx hb dX12_plan_299 g21 ?_
      obtain ⟨t22, et22, hf⟩ := x_lt hf
      refine x_nmi et22 ?_
      refine lv_istore (lv' := [(14, _), (17, _), (0, _), (5, _), (7, _), (8, _), (9, _), (10, _), (11, _), (12, _), (13, _), (15, _), (16, _)]) hx hb dX12_plan_300 hl (Nat.le_of_ble_eq_true rfl) rfl (fun ls hl => ?_)
      refine lv_iload hx hb dX12_plan_302 (lv_at hl 11 rfl) ?_
      refine lv_if_eq (tgt := 337) hx hb dX12_plan_304 rfl (fun hc => ?_) (fun hc => ?_)
      · have hf := x_ip hc hf
        exact B_X12_plan_337  C hk249 ih  ls _ _ h _ _ _ _ _ _ _ _ _ _ _  (lv_sub hl [2, 3, 4, 5, 6, 7, 8, 9, 10, 0, 12, 1] rfl) hR hS hf
      · have hf := x_in hc hf
        refine lv_iload hx hb dX12_plan_307 (lv_at hl 9 rfl) ?_
        refine lv_iload hx hb dX12_plan_309 (lv_at hl 1 rfl) ?_
        refine lv_ishr hx hb dX12_plan_311 ?_
        refine lv_iconst (v := 1) hx hb dX12_plan_312 rfl ?_
        refine lv_iand hx hb dX12_plan_313 ?_
        refine lv_if_ne (tgt := 337) hx hb dX12_plan_314 rfl (fun hc => ?_) (fun hc => ?_)
        · have hf := x_in hc hf
          exact B_X12_plan_337  C hk249 ih  ls _ _ h _ _ _ _ _ _ _ _ _ _ _  (lv_sub hl [2, 3, 4, 5, 6, 7, 8, 9, 10, 0, 12, 1] rfl) hR hS hf
        · have hf := x_ip hc hf
          refine lv_aload_n hx hb dX12_plan_317 rfl (lv_at hl 2 rfl) ?_
          refine gf_12_23 C hR (x_k hR 64 rfl) tw_1566 dX12_plan_318 ?_
          refine lv_bipush (v := 6) hx hb dX12_plan_321 rfl ?_
          refine lv_iload hx hb dX12_plan_323 (lv_at hl 12 rfl) ?_
          refine lv_imul hx hb dX12_plan_325 ?_
          refine lv_iload hx hb dX12_plan_326 (lv_at hl 1 rfl) ?_
          refine lv_iadd hx hb dX12_plan_328 ?_
          obtain ⟨g25, hf⟩ := x_gd hf
          refine x_iald C hR (x_k1 (x_k hR 75 rfl)) (x_k2 (x_k hR 75 rfl) g25) dX12_plan_329 ?_
          have kM26 : ∀ (ls : Array Slot) (H : Heap) (locs : List Loc), lv_has ls 18 [(0, .ref (oX O + 64)), (5, .int v5), (7, .int v7), (8, .int v8), (9, .int v9), (10, .int v10), (11, .int v11), (12, .int v12), (13, .int v13), (14, .int t22), (16, .int v16), (17, .int t19)] → x_R O K h H → va_S (oA O) s.heap H locs → W p l e (x_rm 6 151) s m args below meth c H locs 0 0 (MQ below (x_Qc O K h' (some (.int r))) args s 0 0 (oA O)) (F0 m 338 ls [.int (if (h.1 (oX O + 75) ((6 * v16) + t19).toNatClampNeg) < 0 then 0 else 1)]) := by
            intro ls H locs hl hR hS
            obtain ⟨t27, et27, hf⟩ := x_lt hf
            refine x_nmi et27 ?_
            refine lv_istore (lv' := [(15, _), (0, _), (5, _), (7, _), (8, _), (9, _), (10, _), (11, _), (12, _), (13, _), (14, _), (16, _), (17, _)]) hx hb dX12_plan_338 hl (Nat.le_of_ble_eq_true rfl) rfl (fun ls hl => ?_)
            refine lv_iload hx hb dX12_plan_340 (lv_at hl 8 rfl) ?_
            refine lv_iconst (v := 1) hx hb dX12_plan_342 rfl ?_
            refine lv_iload hx hb dX12_plan_343 (lv_at hl 12 rfl) ?_
            refine lv_ishl hx hb dX12_plan_345 ?_
            refine lv_ior hx hb dX12_plan_346 ?_
            refine lv_istore (lv' := [(12, _), (15, _), (0, _), (5, _), (7, _), (8, _), (9, _), (10, _), (11, _), (13, _), (14, _), (16, _), (17, _)]) hx hb dX12_plan_347 hl (Nat.le_of_ble_eq_true rfl) rfl (fun ls hl => ?_)
            refine lv_iload hx hb dX12_plan_349 (lv_at hl 9 rfl) ?_
            refine lv_aload_n hx hb dX12_plan_351 rfl (lv_at hl 2 rfl) ?_
            refine gf_12_23 C hR (x_k hR 64 rfl) tw_1566 dX12_plan_352 ?_
            refine lv_bipush (v := 6) hx hb dX12_plan_355 rfl ?_
            refine lv_iload hx hb dX12_plan_357 (lv_at hl 11 rfl) ?_
            refine lv_imul hx hb dX12_plan_359 ?_
            refine lv_iload hx hb dX12_plan_360 (lv_at hl 12 rfl) ?_
            refine lv_iadd hx hb dX12_plan_362 ?_
            obtain ⟨g28, hf⟩ := x_gd hf
            refine x_iald C hR (x_k1 (x_k hR 75 rfl)) (x_k2 (x_k hR 75 rfl) g28) dX12_plan_363 ?_
            refine lv_iadd hx hb dX12_plan_364 ?_
            obtain ⟨t29, et29, hf⟩ := x_lt hf
            refine x_nmi et29 ?_
            refine lv_istore (lv' := [(13, _), (12, _), (15, _), (0, _), (5, _), (7, _), (8, _), (9, _), (10, _), (11, _), (14, _), (16, _), (17, _)]) hx hb dX12_plan_365 hl (Nat.le_of_ble_eq_true rfl) rfl (fun ls hl => ?_)
            refine lv_iinc (k := 11) (v := _ + (-1)) (lv' := [(16, _), (13, _), (12, _), (15, _), (0, _), (5, _), (7, _), (8, _), (9, _), (10, _), (11, _), (14, _), (17, _)]) hx hb dX12_plan_367 hl rfl (x_inc (-1) (-1) rfl _) (Nat.le_of_ble_eq_true rfl) rfl (fun ls hl => ?_)
            refine lv_goto (tgt := 275) hx hb dX12_plan_370 rfl ?_
            exact ih ls _ _ h _ _ _ _ _ _ _ _ _ _ _  (lv_sub hl [4, 5, 6, 7, 8, 9, 10, 2, 1, 11, 3, 0] rfl) hR hS hf
          refine lv_if_lt (tgt := 337) hx hb dX12_plan_330 rfl (fun hc => ?_) (fun hc => ?_)
          · try simp only [if_pos hc] at kM26
            refine lv_iconst (v := 0) hx hb dX12_plan_337 rfl ?_
            exact kM26 ls _ _ (lv_sub hl [2, 3, 4, 5, 6, 7, 8, 9, 10, 0, 12, 1] rfl) hR hS
          · try simp only [if_neg hc] at kM26
            refine lv_iconst (v := 1) hx hb dX12_plan_333 rfl ?_
            refine lv_goto (tgt := 338) hx hb dX12_plan_334 rfl ?_
            exact kM26 ls _ _ (lv_sub hl [2, 3, 4, 5, 6, 7, 8, 9, 10, 0, 12, 1] rfl) hR hS
set_option maxRecDepth 20000 in
theorem B_X12_plan_249 {p : Program} {l : Launch} {e : Env} {s : State} {m : MethodId} {args : Array Value} {below : List Frame} {meth : Method} {c : Code} {O : XO} {K : XK} {r : Int32} {h' : XH}   (C : x_C p s m args meth c O cX12_plan 18 RX12 (some .int))   : ∀ (n : Nat) (ls : Array Slot) (H : Heap) (locs : List Loc) (h : XH) (v5 : Int32) (v7 : Int32) (v8 : Int32) (v9 : Int32) (v10 : Int32) (v11 : Int32) (hl : lv_has ls 18 [(0, .ref (oX O + 64)), (5, .int v5), (7, .int v7), (8, .int v8), (9, .int v9), (10, .int v10), (11, .int v11)]) (hR : x_R O K h H) (hS : va_S (oA O) s.heap H locs) (hf : f_X12_plan_249 (oX O) n h v5 v7 v8 v9 v10 v11 = some (r, h')), W p l e (x_rm 6 151) s m args below meth c H locs 0 0 (MQ below (x_Qc O K h' (some (.int r))) args s 0 0 (oA O)) (F0 m 249 ls []) := by
  have hx := C.1
  have hb := C.2.1
  intro n
  induction n with
  | zero =>
    intro ls H locs h v5 v7 v8 v9 v10 v11 hl hR hS hf
    rw [f_X12_plan_249] at hf
    cases hf
  | succ n ih =>
    intro ls H locs h v5 v7 v8 v9 v10 v11 hl hR hS hf
    rw [f_X12_plan_249] at hf
    refine lv_iload hx hb dX12_plan_249 (lv_at hl 6 rfl) ?_
    refine lv_iload hx hb dX12_plan_251 (lv_at hl 3 rfl) ?_
    refine lv_icmp_ge (tgt := 402) hx hb dX12_plan_253 rfl (fun hc => ?_) (fun hc => ?_)
    · have hf := x_ip hc hf
      refine lv_iload hx hb dX12_plan_402 (lv_at hl 4 rfl) ?_
      refine lv_if_lt (tgt := 413) hx hb dX12_plan_404 rfl (fun hc => ?_) (fun hc => ?_)
      · have hf := x_ip hc hf
        exact B_X12_plan_413  C   ls _ _ h _ _  (lv_sub hl [4, 5] rfl) hR hS hf
      · have hf := x_in hc hf
        refine lv_iload hx hb dX12_plan_407 (lv_at hl 1 rfl) ?_
        refine lv_iconst (v := (-1)) hx hb dX12_plan_409 rfl ?_
        refine lv_icmp_ne (tgt := 425) hx hb dX12_plan_410 rfl (fun hc => ?_) (fun hc => ?_)
        · have hf := x_in hc hf
          refine lv_iload hx hb dX12_plan_425 (lv_at hl 4 rfl) ?_
          refine lv_istore (lv' := [(11, _), (0, _), (5, _), (7, _), (8, _), (9, _), (10, _)]) hx hb dX12_plan_427 hl (Nat.le_of_ble_eq_true rfl) rfl (fun ls hl => ?_)
          refine lv_iload hx hb dX12_plan_429 (lv_at hl 3 rfl) ?_
          refine lv_iconst (v := 1) hx hb dX12_plan_431 rfl ?_
          refine lv_isub hx hb dX12_plan_432 ?_
          refine lv_istore (lv' := [(12, _), (11, _), (0, _), (5, _), (7, _), (8, _), (9, _), (10, _)]) hx hb dX12_plan_433 hl (Nat.le_of_ble_eq_true rfl) rfl (fun ls hl => ?_)
          exact B_X12_plan_435  C  x_FU ls _ _ h _ _ _  (lv_sub hl [2, 3, 1, 0] rfl) hR hS hf
        · have hf := x_ip hc hf
          exact B_X12_plan_413  C   ls _ _ h _ _  (lv_sub hl [4, 5] rfl) hR hS hf
    · have hf := x_in hc hf
      refine lv_iconst (v := 0) hx hb dX12_plan_256 rfl ?_
      refine lv_istore (lv' := [(12, _), (0, _), (5, _), (7, _), (8, _), (9, _), (10, _), (11, _)]) hx hb dX12_plan_257 hl (Nat.le_of_ble_eq_true rfl) rfl (fun ls hl => ?_)
      refine lv_iconst (v := 0) hx hb dX12_plan_259 rfl ?_
      refine lv_istore (lv' := [(13, _), (12, _), (0, _), (5, _), (7, _), (8, _), (9, _), (10, _), (11, _)]) hx hb dX12_plan_260 hl (Nat.le_of_ble_eq_true rfl) rfl (fun ls hl => ?_)
      refine lv_iload hx hb dX12_plan_262 (lv_at hl 8 rfl) ?_
      refine lv_istore (lv' := [(14, _), (13, _), (12, _), (0, _), (5, _), (7, _), (8, _), (9, _), (10, _), (11, _)]) hx hb dX12_plan_264 hl (Nat.le_of_ble_eq_true rfl) rfl (fun ls hl => ?_)
      refine lv_iconst (v := 1) hx hb dX12_plan_266 rfl ?_
      refine lv_istore (lv' := [(15, _), (14, _), (13, _), (12, _), (0, _), (5, _), (7, _), (8, _), (9, _), (10, _), (11, _)]) hx hb dX12_plan_267 hl (Nat.le_of_ble_eq_true rfl) rfl (fun ls hl => ?_)
      refine lv_iload hx hb dX12_plan_269 (lv_at hl 6 rfl) ?_
      refine lv_iconst (v := 1) hx hb dX12_plan_271 rfl ?_
      refine lv_isub hx hb dX12_plan_272 ?_
      refine lv_istore (lv' := [(16, _), (15, _), (14, _), (13, _), (12, _), (0, _), (5, _), (7, _), (8, _), (9, _), (10, _), (11, _)]) hx hb dX12_plan_273 hl (Nat.le_of_ble_eq_true rfl) rfl (fun ls hl => ?_)
      exact B_X12_plan_275  C ih x_FU ls _ _ h _ _ _ _ _ _ _ _ _ _ _  (lv_sub hl [5, 6, 7, 8, 9, 10, 11, 4, 3, 2, 1, 0] rfl) hR hS hf
set_option maxRecDepth 20000 in
theorem B_X12_plan_216 {p : Program} {l : Launch} {e : Env} {s : State} {m : MethodId} {args : Array Value} {below : List Frame} {meth : Method} {c : Code} {O : XO} {K : XK} {r : Int32} {h' : XH}   (C : x_C p s m args meth c O cX12_plan 18 RX12 (some .int))   : ∀ (n : Nat) (ls : Array Slot) (H : Heap) (locs : List Loc) (h : XH) (v5 : Int32) (v7 : Int32) (v8 : Int32) (v9 : Int32) (hl : lv_has ls 18 [(0, .ref (oX O + 64)), (5, .int v5), (7, .int v7), (8, .int v8), (9, .int v9)]) (hR : x_R O K h H) (hS : va_S (oA O) s.heap H locs) (hf : f_X12_plan_216 (oX O) n h v5 v7 v8 v9 = some (r, h')), W p l e (x_rm 6 151) s m args below meth c H locs 0 0 (MQ below (x_Qc O K h' (some (.int r))) args s 0 0 (oA O)) (F0 m 216 ls []) := by
  have hx := C.1
  have hb := C.2.1
  intro n
  induction n with
  | zero =>
    intro ls H locs h v5 v7 v8 v9 hl hR hS hf
    rw [f_X12_plan_216] at hf
    cases hf
  | succ n ih =>
    intro ls H locs h v5 v7 v8 v9 hl hR hS hf
    rw [f_X12_plan_216] at hf
    refine lv_iload hx hb dX12_plan_216 (lv_at hl 4 rfl) ?_
    refine lv_iload hx hb dX12_plan_218 (lv_at hl 2 rfl) ?_
    refine lv_icmp_ge (tgt := 240) hx hb dX12_plan_220 rfl (fun hc => ?_) (fun hc => ?_)
    · have hf := x_ip hc hf
      refine lv_iconst (v := (-1)) hx hb dX12_plan_240 rfl ?_
      refine lv_istore (lv' := [(9, _), (0, _), (5, _), (7, _), (8, _)]) hx hb dX12_plan_241 hl (Nat.le_of_ble_eq_true rfl) rfl (fun ls hl => ?_)
      refine lv_iconst (v := (-1)) hx hb dX12_plan_243 rfl ?_
      refine lv_istore (lv' := [(10, _), (9, _), (0, _), (5, _), (7, _), (8, _)]) hx hb dX12_plan_244 hl (Nat.le_of_ble_eq_true rfl) rfl (fun ls hl => ?_)
      refine lv_iconst (v := 0) hx hb dX12_plan_246 rfl ?_
      refine lv_istore (lv' := [(11, _), (10, _), (9, _), (0, _), (5, _), (7, _), (8, _)]) hx hb dX12_plan_247 hl (Nat.le_of_ble_eq_true rfl) rfl (fun ls hl => ?_)
      exact B_X12_plan_249  C  x_FU ls _ _ h _ _ _ _ _ _  (lv_sub hl [3, 4, 5, 6, 2, 1, 0] rfl) hR hS hf
    · have hf := x_in hc hf
      refine lv_iload hx hb dX12_plan_223 (lv_at hl 3 rfl) ?_
      refine lv_aload_n hx hb dX12_plan_225 rfl (lv_at hl 0 rfl) ?_
      refine gf_12_1 C hR (x_k hR 64 rfl) tw_1544 dX12_plan_226 ?_
      refine lv_iconst (v := 0) hx hb dX12_plan_229 rfl ?_
      obtain ⟨g30, hf⟩ := x_gd hf
      refine x_iald C hR (x_k1 (x_k hR 65 rfl)) (x_k2 (x_k hR 65 rfl) g30) dX12_plan_230 ?_
      refine lv_imul hx hb dX12_plan_231 ?_
      obtain ⟨t31, et31, hf⟩ := x_lt hf
      refine x_nmi et31 ?_
      refine lv_istore (lv' := [(8, _), (0, _), (5, _), (7, _), (9, _)]) hx hb dX12_plan_232 hl (Nat.le_of_ble_eq_true rfl) rfl (fun ls hl => ?_)
      refine lv_iinc (k := 4) (v := _ + 1) (lv' := [(9, _), (8, _), (0, _), (5, _), (7, _)]) hx hb dX12_plan_234 hl rfl (x_inc 1 1 rfl _) (Nat.le_of_ble_eq_true rfl) rfl (fun ls hl => ?_)
      refine lv_goto (tgt := 216) hx hb dX12_plan_237 rfl ?_
      exact ih ls _ _ h _ _ _ _  (lv_sub hl [2, 3, 4, 1, 0] rfl) hR hS hf
set_option maxRecDepth 20000 in
theorem B_X12_plan_198 {p : Program} {l : Launch} {e : Env} {s : State} {m : MethodId} {args : Array Value} {below : List Frame} {meth : Method} {c : Code} {O : XO} {K : XK} {r : Int32} {h' : XH}   (C : x_C p s m args meth c O cX12_plan 18 RX12 (some .int))   (ls : Array Slot) (H : Heap) (locs : List Loc) (h : XH) (v5 : Int32) (v6 : Int32) (v7 : Int32) (hl : lv_has ls 18 [(0, .ref (oX O + 64)), (5, .int v5), (6, .int v6), (7, .int v7)]) (hR : x_R O K h H) (hS : va_S (oA O) s.heap H locs) (hf : f_X12_plan_198 (oX O) h v5 v6 v7 = some (r, h')) : W p l e (x_rm 6 151) s m args below meth c H locs 0 0 (MQ below (x_Qc O K h' (some (.int r))) args s 0 0 (oA O)) (F0 m 198 ls []) := by
  have hx := C.1
  have hb := C.2.1
  rw [f_X12_plan_198] at hf
  refine lv_aload_n hx hb dX12_plan_198 rfl (lv_at hl 0 rfl) ?_
  refine lv_iload hx hb dX12_plan_199 (lv_at hl 2 rfl) ?_
  refine lv_iconst (v := 2) hx hb dX12_plan_201 rfl ?_
  obtain ⟨q8, eq8, hf⟩ := x_bd hf
  refine x_cVi2 C hR hS (S_X12_throwsIf  eq8) (x_k hR 64 rfl) (by decide) rfl mf_X12_throwsIf tw_1741 (Nat.le_of_ble_eq_true rfl) (Nat.le_of_ble_eq_true rfl) hl.1 (Nat.le_of_ble_eq_true rfl) dX12_plan_202 ⟨Nat.le_refl _, Nat.le_refl _⟩ (fun H locs hR hS => ?_)
  refine lv_if_eq (tgt := 210) hx hb dX12_plan_205 rfl (fun hc => ?_) (fun hc => ?_)
  · have hf := x_ip hc hf
    refine lv_iconst (v := 1) hx hb dX12_plan_210 rfl ?_
    refine lv_istore (lv' := [(8, _), (0, _), (5, _), (6, _), (7, _)]) hx hb dX12_plan_211 hl (Nat.le_of_ble_eq_true rfl) rfl (fun ls hl => ?_)
    refine lv_iconst (v := 0) hx hb dX12_plan_213 rfl ?_
    refine lv_istore (lv' := [(9, _), (8, _), (0, _), (5, _), (6, _), (7, _)]) hx hb dX12_plan_214 hl (Nat.le_of_ble_eq_true rfl) rfl (fun ls hl => ?_)
    exact B_X12_plan_216  C  x_FU ls _ _ q8.2 _ _ _ _  (lv_sub hl [2, 3, 5, 1, 0] rfl) hR hS hf
  · have hf := x_in hc hf
    refine lv_iconst (v := 0) hx hb dX12_plan_208 rfl ?_
    cases hf
    exact x_iret C hR hS dX12_plan_209
set_option maxRecDepth 20000 in
theorem B_X12_plan_192 {p : Program} {l : Launch} {e : Env} {s : State} {m : MethodId} {args : Array Value} {below : List Frame} {meth : Method} {c : Code} {O : XO} {K : XK} {r : Int32} {h' : XH}  {k99 : XH → Int32 → Int32 → Int32 → Int32 → Int32 → Int32 → Int32 → Int32 → Option (Int32 × XH)} (C : x_C p s m args meth c O cX12_plan 18 RX12 (some .int)) (hk99 : ∀ (ls : Array Slot) (H : Heap) (locs : List Loc) (h : XH) (v1 : Int32) (v2 : Int32) (v3 : Int32) (v4 : Int32) (v5 : Int32) (v6 : Int32) (v7 : Int32) (v8 : Int32), lv_has ls 18 [(0, .ref (oX O + 64)), (1, .int v1), (2, .int v2), (3, .int v3), (4, .int v4), (5, .int v5), (6, .int v6), (7, .int v7), (8, .int v8)] → x_R O K h H → va_S (oA O) s.heap H locs → k99 h v1 v2 v3 v4 v5 v6 v7 v8 = some (r, h') → W p l e (x_rm 6 151) s m args below meth c H locs 0 0 (MQ below (x_Qc O K h' (some (.int r))) args s 0 0 (oA O)) (F0 m 99 ls []))  (ls : Array Slot) (H : Heap) (locs : List Loc) (h : XH) (v1 : Int32) (v2 : Int32) (v3 : Int32) (v4 : Int32) (v5 : Int32) (v6 : Int32) (v7 : Int32) (v8 : Int32) (hl : lv_has ls 18 [(0, .ref (oX O + 64)), (1, .int v1), (2, .int v2), (3, .int v3), (4, .int v4), (5, .int v5), (6, .int v6), (7, .int v7), (8, .int v8)]) (hR : x_R O K h H) (hS : va_S (oA O) s.heap H locs) (hf : f_X12_plan_192 k99 (oX O) h v1 v2 v3 v4 v5 v6 v7 v8 = some (r, h')) : W p l e (x_rm 6 151) s m args below meth c H locs 0 0 (MQ below (x_Qc O K h' (some (.int r))) args s 0 0 (oA O)) (F0 m 192 ls []) := by
  have hx := C.1
  have hb := C.2.1
  rw [f_X12_plan_192] at hf
  refine lv_iinc (k := 8) (v := _ + 1) (lv' := [(8, _), (0, _), (1, _), (2, _), (3, _), (4, _), (5, _), (6, _), (7, _)]) hx hb dX12_plan_192 hl rfl (x_inc 1 1 rfl _) (Nat.le_of_ble_eq_true rfl) rfl (fun ls hl => ?_)
  refine lv_goto (tgt := 99) hx hb dX12_plan_195 rfl ?_
  exact hk99 ls _ _ h _ _ _ _ _ _ _ _  (lv_sub hl [1, 2, 3, 4, 5, 6, 7, 8, 0] rfl) hR hS hf
set_option maxRecDepth 20000 in
theorem B_X12_plan_138 {p : Program} {l : Launch} {e : Env} {s : State} {m : MethodId} {args : Array Value} {below : List Frame} {meth : Method} {c : Code} {O : XO} {K : XK} {r : Int32} {h' : XH}  {k99 : XH → Int32 → Int32 → Int32 → Int32 → Int32 → Int32 → Int32 → Int32 → Option (Int32 × XH)} (C : x_C p s m args meth c O cX12_plan 18 RX12 (some .int)) (hk99 : ∀ (ls : Array Slot) (H : Heap) (locs : List Loc) (h : XH) (v1 : Int32) (v2 : Int32) (v3 : Int32) (v4 : Int32) (v5 : Int32) (v6 : Int32) (v7 : Int32) (v8 : Int32), lv_has ls 18 [(0, .ref (oX O + 64)), (1, .int v1), (2, .int v2), (3, .int v3), (4, .int v4), (5, .int v5), (6, .int v6), (7, .int v7), (8, .int v8)] → x_R O K h H → va_S (oA O) s.heap H locs → k99 h v1 v2 v3 v4 v5 v6 v7 v8 = some (r, h') → W p l e (x_rm 6 151) s m args below meth c H locs 0 0 (MQ below (x_Qc O K h' (some (.int r))) args s 0 0 (oA O)) (F0 m 99 ls []))  : ∀ (n : Nat) (ls : Array Slot) (H : Heap) (locs : List Loc) (h : XH) (v1 : Int32) (v2 : Int32) (v3 : Int32) (v4 : Int32) (v5 : Int32) (v6 : Int32) (v7 : Int32) (v8 : Int32) (v9 : Int32) (hl : lv_has ls 18 [(0, .ref (oX O + 64)), (1, .int v1), (2, .int v2), (3, .int v3), (4, .int v4), (5, .int v5), (6, .int v6), (7, .int v7), (8, .int v8), (9, .int v9)]) (hR : x_R O K h H) (hS : va_S (oA O) s.heap H locs) (hf : f_X12_plan_138 k99 (oX O) n h v1 v2 v3 v4 v5 v6 v7 v8 v9 = some (r, h')), W p l e (x_rm 6 151) s m args below meth c H locs 0 0 (MQ below (x_Qc O K h' (some (.int r))) args s 0 0 (oA O)) (F0 m 138 ls []) := by
  have hx := C.1
  have hb := C.2.1
  intro n
  induction n with
  | zero =>
    intro ls H locs h v1 v2 v3 v4 v5 v6 v7 v8 v9 hl hR hS hf
    rw [f_X12_plan_138] at hf
    cases hf
  | succ n ih =>
    intro ls H locs h v1 v2 v3 v4 v5 v6 v7 v8 v9 hl hR hS hf
    rw [f_X12_plan_138] at hf
    refine lv_iload hx hb dX12_plan_138 (lv_at hl 9 rfl) ?_
    refine lv_aload_n hx hb dX12_plan_140 rfl (lv_at hl 0 rfl) ?_
    refine gf_12_1 C hR (x_k hR 64 rfl) tw_1544 dX12_plan_141 ?_
    refine lv_iconst (v := 0) hx hb dX12_plan_144 rfl ?_
    obtain ⟨g33, hf⟩ := x_gd hf
    refine x_iald C hR (x_k1 (x_k hR 65 rfl)) (x_k2 (x_k hR 65 rfl) g33) dX12_plan_145 ?_
    refine lv_icmp_ge (tgt := 180) hx hb dX12_plan_146 rfl (fun hc => ?_) (fun hc => ?_)
    · have hf := x_ip hc hf
      refine lv_aload_n hx hb dX12_plan_180 rfl (lv_at hl 0 rfl) ?_
      refine gf_12_22 C hR (x_k hR 64 rfl) tw_1565 dX12_plan_181 ?_
      refine lv_iload hx hb dX12_plan_184 (lv_at hl 7 rfl) ?_
      refine lv_iload hx hb dX12_plan_186 (lv_at hl 8 rfl) ?_
      obtain ⟨g34, hf⟩ := x_gd hf
      obtain ⟨h35, eh35, hf⟩ := x_lt hf
      refine x_iast C hR hS (x_k1 (x_k hR 74 rfl)) (x_k2 (x_k hR 74 rfl) g34) dX12_plan_188 (fun H locs hR hS => ?_)
      rw [← eh35] at hR
      refine lv_iinc (k := 7) (v := _ + 1) (lv' := [(7, _), (0, _), (1, _), (2, _), (3, _), (4, _), (5, _), (6, _), (8, _), (9, _)]) hx hb dX12_plan_189 hl rfl (x_inc 1 1 rfl _) (Nat.le_of_ble_eq_true rfl) rfl (fun ls hl => ?_)
      exact B_X12_plan_192  C hk99  ls _ _ h35 _ _ _ _ _ _ _ _  (lv_sub hl [1, 2, 3, 4, 5, 6, 7, 0, 8] rfl) hR hS hf
    · have hf := x_in hc hf
      refine lv_aload_n hx hb dX12_plan_149 rfl (lv_at hl 0 rfl) ?_
      refine gf_12_23 C hR (x_k hR 64 rfl) tw_1566 dX12_plan_150 ?_
      refine lv_bipush (v := 6) hx hb dX12_plan_153 rfl ?_
      refine lv_iload hx hb dX12_plan_155 (lv_at hl 7 rfl) ?_
      refine lv_imul hx hb dX12_plan_157 ?_
      refine lv_iload hx hb dX12_plan_158 (lv_at hl 9 rfl) ?_
      refine lv_iadd hx hb dX12_plan_160 ?_
      refine lv_aload_n hx hb dX12_plan_161 rfl (lv_at hl 0 rfl) ?_
      refine lv_iload_n hx hb dX12_plan_162 rfl (lv_at hl 1 rfl) ?_
      refine lv_iload hx hb dX12_plan_163 (lv_at hl 8 rfl) ?_
      refine lv_iload hx hb dX12_plan_165 (lv_at hl 9 rfl) ?_
      refine lv_iload_n hx hb dX12_plan_167 rfl (lv_at hl 3 rfl) ?_
      refine lv_iload hx hb dX12_plan_168 (lv_at hl 4 rfl) ?_
      obtain ⟨q36, eq36, hf⟩ := x_bd hf
      refine x_cVi5 C hR hS (S_X12_awaitedAt  eq36) (x_k hR 64 rfl) (by decide) rfl mf_X12_awaitedAt tw_2049 (Nat.le_of_ble_eq_true rfl) (Nat.le_of_ble_eq_true rfl) hl.1 (Nat.le_of_ble_eq_true rfl) dX12_plan_170 ⟨Nat.le_refl _, Nat.le_refl _⟩ (fun H locs hR hS => ?_)
      obtain ⟨g37, hf⟩ := x_gd hf
      obtain ⟨h38, eh38, hf⟩ := x_lt hf
      refine x_iast C hR hS (x_k1 (x_k hR 75 rfl)) (x_k2 (x_k hR 75 rfl) g37) dX12_plan_173 (fun H locs hR hS => ?_)
      rw [← eh38] at hR
      refine lv_iinc (k := 9) (v := _ + 1) (lv' := [(9, _), (0, _), (1, _), (2, _), (3, _), (4, _), (5, _), (6, _), (7, _), (8, _)]) hx hb dX12_plan_174 hl rfl (x_inc 1 1 rfl _) (Nat.le_of_ble_eq_true rfl) rfl (fun ls hl => ?_)
      refine lv_goto (tgt := 138) hx hb dX12_plan_177 rfl ?_
      exact ih ls _ _ h38 _ _ _ _ _ _ _ _ _  (lv_sub hl [1, 2, 3, 4, 5, 6, 7, 8, 9, 0] rfl) hR hS hf
set_option maxRecDepth 20000 in
theorem B_X12_plan_99 {p : Program} {l : Launch} {e : Env} {s : State} {m : MethodId} {args : Array Value} {below : List Frame} {meth : Method} {c : Code} {O : XO} {K : XK} {r : Int32} {h' : XH}   (C : x_C p s m args meth c O cX12_plan 18 RX12 (some .int))   : ∀ (n : Nat) (ls : Array Slot) (H : Heap) (locs : List Loc) (h : XH) (v1 : Int32) (v2 : Int32) (v3 : Int32) (v4 : Int32) (v5 : Int32) (v6 : Int32) (v7 : Int32) (v8 : Int32) (hl : lv_has ls 18 [(0, .ref (oX O + 64)), (1, .int v1), (2, .int v2), (3, .int v3), (4, .int v4), (5, .int v5), (6, .int v6), (7, .int v7), (8, .int v8)]) (hR : x_R O K h H) (hS : va_S (oA O) s.heap H locs) (hf : f_X12_plan_99 (oX O) n h v1 v2 v3 v4 v5 v6 v7 v8 = some (r, h')), W p l e (x_rm 6 151) s m args below meth c H locs 0 0 (MQ below (x_Qc O K h' (some (.int r))) args s 0 0 (oA O)) (F0 m 99 ls []) := by
  have hx := C.1
  have hb := C.2.1
  intro n
  induction n with
  | zero =>
    intro ls H locs h v1 v2 v3 v4 v5 v6 v7 v8 hl hR hS hf
    rw [f_X12_plan_99] at hf
    cases hf
  | succ n ih =>
    intro ls H locs h v1 v2 v3 v4 v5 v6 v7 v8 hl hR hS hf
    rw [f_X12_plan_99] at hf
    refine lv_iload hx hb dX12_plan_99 (lv_at hl 8 rfl) ?_
    refine lv_aload_n hx hb dX12_plan_101 rfl (lv_at hl 0 rfl) ?_
    refine gf_12_1 C hR (x_k hR 64 rfl) tw_1544 dX12_plan_102 ?_
    refine lv_iconst (v := 1) hx hb dX12_plan_105 rfl ?_
    obtain ⟨g7, hf⟩ := x_gd hf
    refine x_iald C hR (x_k1 (x_k hR 65 rfl)) (x_k2 (x_k hR 65 rfl) g7) dX12_plan_106 ?_
    refine lv_icmp_ge (tgt := 198) hx hb dX12_plan_107 rfl (fun hc => ?_) (fun hc => ?_)
    · have hf := x_ip hc hf
      exact B_X12_plan_198  C   ls _ _ h _ _ _  (lv_sub hl [0, 5, 6, 7] rfl) hR hS hf
    · have hf := x_in hc hf
      refine lv_iload hx hb dX12_plan_110 (lv_at hl 6 rfl) ?_
      refine lv_if_ne (tgt := 198) hx hb dX12_plan_112 rfl (fun hc => ?_) (fun hc => ?_)
      · have hf := x_in hc hf
        exact B_X12_plan_198  C   ls _ _ h _ _ _  (lv_sub hl [0, 5, 6, 7] rfl) hR hS hf
      · have hf := x_ip hc hf
        refine lv_iload_n hx hb dX12_plan_115 rfl (lv_at hl 2 rfl) ?_
        refine lv_iload hx hb dX12_plan_116 (lv_at hl 8 rfl) ?_
        refine lv_ishr hx hb dX12_plan_118 ?_
        refine lv_iconst (v := 1) hx hb dX12_plan_119 rfl ?_
        refine lv_iand hx hb dX12_plan_120 ?_
        refine lv_if_ne (tgt := 127) hx hb dX12_plan_121 rfl (fun hc => ?_) (fun hc => ?_)
        · have hf := x_in hc hf
          refine lv_aload_n hx hb dX12_plan_127 rfl (lv_at hl 0 rfl) ?_
          refine lv_iload hx hb dX12_plan_128 (lv_at hl 8 rfl) ?_
          obtain ⟨v_32, ev_32, hf⟩ := x_bd hf
          refine x_cVi1 C hR hS (S_X12_isPut  ev_32) (x_k hR 64 rfl) (by decide) rfl mf_X12_isPut tw_1818 (Nat.le_of_ble_eq_true rfl) (Nat.le_of_ble_eq_true rfl) hl.1 (Nat.le_of_ble_eq_true rfl) dX12_plan_130 ⟨Nat.le_refl _, Nat.le_refl _⟩ (fun H locs hR hS => ?_)
          refine lv_istore (lv' := [(6, _), (0, _), (1, _), (2, _), (3, _), (4, _), (5, _), (7, _), (8, _)]) hx hb dX12_plan_133 hl (Nat.le_of_ble_eq_true rfl) rfl (fun ls hl => ?_)
          refine lv_iconst (v := 0) hx hb dX12_plan_135 rfl ?_
          refine lv_istore (lv' := [(9, _), (6, _), (0, _), (1, _), (2, _), (3, _), (4, _), (5, _), (7, _), (8, _)]) hx hb dX12_plan_136 hl (Nat.le_of_ble_eq_true rfl) rfl (fun ls hl => ?_)
          exact B_X12_plan_138  C ih x_FU ls _ _ h _ _ _ _ _ _ _ _ _  (lv_sub hl [2, 3, 4, 5, 6, 7, 1, 8, 9, 0] rfl) hR hS hf
        · have hf := x_ip hc hf
          refine lv_goto (tgt := 192) hx hb dX12_plan_124 rfl ?_
          exact B_X12_plan_192  C ih  ls _ _ h _ _ _ _ _ _ _ _  (lv_sub hl [0, 1, 2, 3, 4, 5, 6, 7, 8] rfl) hR hS hf
set_option maxRecDepth 20000 in
theorem B_X12_plan_34 {p : Program} {l : Launch} {e : Env} {s : State} {m : MethodId} {args : Array Value} {below : List Frame} {meth : Method} {c : Code} {O : XO} {K : XK} {r : Int32} {h' : XH}   (C : x_C p s m args meth c O cX12_plan 18 RX12 (some .int))   (ls : Array Slot) (H : Heap) (locs : List Loc) (h : XH) (v1 : Int32) (v2 : Int32) (v3 : Int32) (v4 : Int32) (v5 : Int32) (s1 : Int32) (hl : lv_has ls 18 [(0, .ref (oX O + 64)), (1, .int v1), (2, .int v2), (3, .int v3), (4, .int v4), (5, .int v5)]) (hR : x_R O K h H) (hS : va_S (oA O) s.heap H locs) (hf : f_X12_plan_34 (oX O) h v1 v2 v3 v4 v5 s1 = some (r, h')) : W p l e (x_rm 6 151) s m args below meth c H locs 0 0 (MQ below (x_Qc O K h' (some (.int r))) args s 0 0 (oA O)) (F0 m 34 ls [.int s1, .ref (oX O + 64)]) := by
  have hx := C.1
  have hb := C.2.1
  rw [f_X12_plan_34] at hf
  refine lv_iconst (v := 1) hx hb dX12_plan_34 rfl ?_
  obtain ⟨q3, eq3, hf⟩ := x_bd hf
  refine x_cVi2 C hR hS (S_X12_throwsIf  eq3) (x_k hR 64 rfl) (by decide) rfl mf_X12_throwsIf tw_1741 (Nat.le_of_ble_eq_true rfl) (Nat.le_of_ble_eq_true rfl) hl.1 (Nat.le_of_ble_eq_true rfl) dX12_plan_35 ⟨Nat.le_refl _, Nat.le_refl _⟩ (fun H locs hR hS => ?_)
  refine lv_if_eq (tgt := 43) hx hb dX12_plan_38 rfl (fun hc => ?_) (fun hc => ?_)
  · have hf := x_ip hc hf
    refine lv_iload_n hx hb dX12_plan_43 rfl (lv_at hl 2 rfl) ?_
    refine lv_iconst (v := 0) hx hb dX12_plan_44 rfl ?_
    refine lv_iconst (v := 1) hx hb dX12_plan_45 rfl ?_
    refine lv_aload_n hx hb dX12_plan_46 rfl (lv_at hl 0 rfl) ?_
    refine gf_12_1 C hR (x_k hR 64 rfl) tw_1544 dX12_plan_47 ?_
    refine lv_iconst (v := 1) hx hb dX12_plan_50 rfl ?_
    obtain ⟨g4, hf⟩ := x_gd hf
    refine x_iald C hR (x_k1 (x_k hR 65 rfl)) (x_k2 (x_k hR 65 rfl) g4) dX12_plan_51 ?_
    refine lv_ishl hx hb dX12_plan_52 ?_
    refine lv_iconst (v := 1) hx hb dX12_plan_53 rfl ?_
    refine lv_isub hx hb dX12_plan_54 ?_
    refine x_cSi3 C hR hS (S_X12_in  rfl) mf_X12_in tw_1756 (Nat.le_of_ble_eq_true rfl) (Nat.le_of_ble_eq_true rfl) hl.1 (Nat.le_of_ble_eq_true rfl) dX12_plan_55 ⟨Nat.le_refl _, Nat.le_refl _⟩ (fun H locs hR hS => ?_)
    have kM5 : ∀ (ls : Array Slot) (H : Heap) (locs : List Loc), lv_has ls 18 [(0, .ref (oX O + 64)), (1, .int v1), (2, .int v2), (3, .int v3), (4, .int v4), (5, .int v5)] → x_R O K q3.2 H → va_S (oA O) s.heap H locs → W p l e (x_rm 6 151) s m args below meth c H locs 0 0 (MQ below (x_Qc O K h' (some (.int r))) args s 0 0 (oA O)) (F0 m 91 ls [.int (if (f_X12_in q3.2 v2 0 ((x_shl 1 (q3.2.1 (oX O + 65) (1 : Int32).toNatClampNeg)) - 1)) = 0 then 1 else (if 5 < (f_J6_bitCount_0f7a4 q3.2 v2) then 1 else (if (f_X12_in q3.2 v3 1 3) = 0 then 1 else (if (f_X12_noSeconds q3.2 v4) = 0 then 0 else 1))))]) := by
      intro ls H locs hl hR hS
      obtain ⟨t6, et6, hf⟩ := x_lt hf
      refine x_nmi et6 ?_
      refine lv_istore (lv' := [(6, _), (0, _), (1, _), (2, _), (3, _), (4, _), (5, _)]) hx hb dX12_plan_91 hl (Nat.le_of_ble_eq_true rfl) rfl (fun ls hl => ?_)
      refine lv_iconst (v := 0) hx hb dX12_plan_93 rfl ?_
      refine lv_istore (lv' := [(7, _), (6, _), (0, _), (1, _), (2, _), (3, _), (4, _), (5, _)]) hx hb dX12_plan_94 hl (Nat.le_of_ble_eq_true rfl) rfl (fun ls hl => ?_)
      refine lv_iconst (v := 0) hx hb dX12_plan_96 rfl ?_
      refine lv_istore (lv' := [(8, _), (7, _), (6, _), (0, _), (1, _), (2, _), (3, _), (4, _), (5, _)]) hx hb dX12_plan_97 hl (Nat.le_of_ble_eq_true rfl) rfl (fun ls hl => ?_)
      exact B_X12_plan_99  C  x_FU ls _ _ q3.2 _ _ _ _ _ _ _ _  (lv_sub hl [3, 4, 5, 6, 7, 8, 2, 1, 0] rfl) hR hS hf
    refine lv_if_eq (tgt := 86) hx hb dX12_plan_58 rfl (fun hc => ?_) (fun hc => ?_)
    · try simp only [if_pos hc] at kM5
      refine lv_iconst (v := 1) hx hb dX12_plan_86 rfl ?_
      refine lv_goto (tgt := 91) hx hb dX12_plan_87 rfl ?_
      exact kM5 ls _ _ (lv_sub hl [0, 1, 2, 3, 4, 5] rfl) hR hS
    · try simp only [if_neg hc] at kM5
      refine lv_iload_n hx hb dX12_plan_61 rfl (lv_at hl 2 rfl) ?_
      refine x_cSi1 C hR hS (S_J6_bitCount_0f7a4  rfl) mf_J6_bitCount_0f7a4 tw_2036 (Nat.le_of_ble_eq_true rfl) (Nat.le_of_ble_eq_true rfl) hl.1 (Nat.le_of_ble_eq_true rfl) dX12_plan_62 ⟨Nat.le_refl _, Nat.le_refl _⟩ (fun H locs hR hS => ?_)
      refine lv_iconst (v := 5) hx hb dX12_plan_65 rfl ?_
      refine lv_icmp_gt (tgt := 86) hx hb dX12_plan_66 rfl (fun hc => ?_) (fun hc => ?_)
      · try simp only [if_pos hc] at kM5
        refine lv_iconst (v := 1) hx hb dX12_plan_86 rfl ?_
        refine lv_goto (tgt := 91) hx hb dX12_plan_87 rfl ?_
        exact kM5 ls _ _ (lv_sub hl [0, 1, 2, 3, 4, 5] rfl) hR hS
      · try simp only [if_neg hc] at kM5
        refine lv_iload_n hx hb dX12_plan_69 rfl (lv_at hl 3 rfl) ?_
        refine lv_iconst (v := 1) hx hb dX12_plan_70 rfl ?_
        refine lv_iconst (v := 3) hx hb dX12_plan_71 rfl ?_
        refine x_cSi3 C hR hS (S_X12_in  rfl) mf_X12_in tw_1756 (Nat.le_of_ble_eq_true rfl) (Nat.le_of_ble_eq_true rfl) hl.1 (Nat.le_of_ble_eq_true rfl) dX12_plan_72 ⟨Nat.le_refl _, Nat.le_refl _⟩ (fun H locs hR hS => ?_)
        refine lv_if_eq (tgt := 86) hx hb dX12_plan_75 rfl (fun hc => ?_) (fun hc => ?_)
        · try simp only [if_pos hc] at kM5
          refine lv_iconst (v := 1) hx hb dX12_plan_86 rfl ?_
          refine lv_goto (tgt := 91) hx hb dX12_plan_87 rfl ?_
          exact kM5 ls _ _ (lv_sub hl [0, 1, 2, 3, 4, 5] rfl) hR hS
        · try simp only [if_neg hc] at kM5
          refine lv_iload hx hb dX12_plan_78 (lv_at hl 4 rfl) ?_
          refine x_cSi1 C hR hS (S_X12_noSeconds  rfl) mf_X12_noSeconds tw_1822 (Nat.le_of_ble_eq_true rfl) (Nat.le_of_ble_eq_true rfl) hl.1 (Nat.le_of_ble_eq_true rfl) dX12_plan_80 ⟨Nat.le_refl _, Nat.le_refl _⟩ (fun H locs hR hS => ?_)
          refine lv_if_eq (tgt := 90) hx hb dX12_plan_83 rfl (fun hc => ?_) (fun hc => ?_)
          · try simp only [if_pos hc] at kM5
            refine lv_iconst (v := 0) hx hb dX12_plan_90 rfl ?_
            exact kM5 ls _ _ (lv_sub hl [0, 1, 2, 3, 4, 5] rfl) hR hS
          · try simp only [if_neg hc] at kM5
            refine lv_iconst (v := 1) hx hb dX12_plan_86 rfl ?_
            refine lv_goto (tgt := 91) hx hb dX12_plan_87 rfl ?_
            exact kM5 ls _ _ (lv_sub hl [0, 1, 2, 3, 4, 5] rfl) hR hS
  · have hf := x_in hc hf
    refine lv_iconst (v := 0) hx hb dX12_plan_41 rfl ?_
    cases hf
    exact x_iret C hR hS dX12_plan_42
set_option maxRecDepth 20000 in
theorem B_X12_plan_29 {p : Program} {l : Launch} {e : Env} {s : State} {m : MethodId} {args : Array Value} {below : List Frame} {meth : Method} {c : Code} {O : XO} {K : XK} {r : Int32} {h' : XH}   (C : x_C p s m args meth c O cX12_plan 18 RX12 (some .int))   (ls : Array Slot) (H : Heap) (locs : List Loc) (h : XH) (v1 : Int32) (v2 : Int32) (v3 : Int32) (v4 : Int32) (v5 : Int32) (hl : lv_has ls 18 [(0, .ref (oX O + 64)), (1, .int v1), (2, .int v2), (3, .int v3), (4, .int v4), (5, .int v5)]) (hR : x_R O K h H) (hS : va_S (oA O) s.heap H locs) (hf : f_X12_plan_29 (oX O) h v1 v2 v3 v4 v5 = some (r, h')) : W p l e (x_rm 6 151) s m args below meth c H locs 0 0 (MQ below (x_Qc O K h' (some (.int r))) args s 0 0 (oA O)) (F0 m 29 ls [.ref (oX O + 64)]) := by
  have hx := C.1
  have hb := C.2.1
  rw [f_X12_plan_29] at hf
  refine lv_iconst (v := 1) hx hb dX12_plan_29 rfl ?_
  refine lv_goto (tgt := 34) hx hb dX12_plan_30 rfl ?_
  exact B_X12_plan_34  C   ls _ _ h _ _ _ _ _ _  (lv_sub hl [0, 1, 2, 3, 4, 5] rfl) hR hS hf
set_option maxRecDepth 20000 in
theorem B_X12_plan_33 {p : Program} {l : Launch} {e : Env} {s : State} {m : MethodId} {args : Array Value} {below : List Frame} {meth : Method} {c : Code} {O : XO} {K : XK} {r : Int32} {h' : XH}   (C : x_C p s m args meth c O cX12_plan 18 RX12 (some .int))   (ls : Array Slot) (H : Heap) (locs : List Loc) (h : XH) (v1 : Int32) (v2 : Int32) (v3 : Int32) (v4 : Int32) (v5 : Int32) (hl : lv_has ls 18 [(0, .ref (oX O + 64)), (1, .int v1), (2, .int v2), (3, .int v3), (4, .int v4), (5, .int v5)]) (hR : x_R O K h H) (hS : va_S (oA O) s.heap H locs) (hf : f_X12_plan_33 (oX O) h v1 v2 v3 v4 v5 = some (r, h')) : W p l e (x_rm 6 151) s m args below meth c H locs 0 0 (MQ below (x_Qc O K h' (some (.int r))) args s 0 0 (oA O)) (F0 m 33 ls [.ref (oX O + 64)]) := by
  have hx := C.1
  have hb := C.2.1
  rw [f_X12_plan_33] at hf
  refine lv_iconst (v := 0) hx hb dX12_plan_33 rfl ?_
  exact B_X12_plan_34  C   ls _ _ h _ _ _ _ _ _  (lv_sub hl [0, 1, 2, 3, 4, 5] rfl) hR hS hf
set_option maxRecDepth 20000 in
theorem S_X12_plan {l : Launch} {O : XO} {K : XK} {h : XH} {v1 : Int32} {v2 : Int32} {v3 : Int32} {v4 : Int32} {v5 : Int32}  {r : Int32} {h' : XH}  (hf : f_X12_plan (oX O) h v1 v2 v3 v4 v5 = some (r, h')) : x_M l O K yX12_plan cX12_plan 18 (some .int) 6 151 h [.ref (oX O + 64), .int v1, .int v2, .int v3, .int v4, .int v5] (some (.int r)) h' := by
  refine x_enter (by decide) (Nat.le_of_ble_eq_true rfl) (fun p e s m args below meth c C hR ls hl => ?_)
  have hS : va_S (oA O) s.heap s.heap [] := va_S.rf
  have hx := C.1
  have hb := C.2.1
  have hl : lv_has ls 18 [(0, .ref (oX O + 64)), (1, .int v1), (2, .int v2), (3, .int v3), (4, .int v4), (5, .int v5)] := hl
  rw [f_X12_plan] at hf
  refine lv_aload_n hx hb dX12_plan_0 rfl (lv_at hl 0 rfl) ?_
  refine lv_iconst (v := 0) hx hb dX12_plan_1 rfl ?_
  obtain ⟨h1, eh1, hf⟩ := x_lt hf
  refine pf_12_0 C hR hS (x_k hR 64 rfl) tw_1543 dX12_plan_2 (fun H locs hR hS => ?_)
  rw [← eh1] at hR
  refine lv_aload_n hx hb dX12_plan_5 rfl (lv_at hl 0 rfl) ?_
  refine lv_aload_n hx hb dX12_plan_6 rfl (lv_at hl 0 rfl) ?_
  refine lv_iload_n hx hb dX12_plan_7 rfl (lv_at hl 1 rfl) ?_
  obtain ⟨v_2, ev_2, hf⟩ := x_bd hf
  refine x_cVi1 C hR hS (S_X12_noLaw  ev_2) (x_k hR 64 rfl) (by decide) rfl mf_X12_noLaw tw_1881 (Nat.le_of_ble_eq_true rfl) (Nat.le_of_ble_eq_true rfl) hl.1 (Nat.le_of_ble_eq_true rfl) dX12_plan_8 ⟨Nat.le_refl _, Nat.le_refl _⟩ (fun H locs hR hS => ?_)
  refine lv_if_ne (tgt := 29) hx hb dX12_plan_11 rfl (fun hc => ?_) (fun hc => ?_)
  · have hf := x_in hc hf
    exact B_X12_plan_29  C   ls _ _ h1 _ _ _ _ _  (lv_sub hl [0, 1, 2, 3, 4, 5] rfl) hR hS hf
  · have hf := x_ip hc hf
    refine lv_iload hx hb dX12_plan_14 (lv_at hl 5 rfl) ?_
    refine lv_iconst (v := (-1)) hx hb dX12_plan_16 rfl ?_
    refine lv_icmp_eq (tgt := 33) hx hb dX12_plan_17 rfl (fun hc => ?_) (fun hc => ?_)
    · have hf := x_ip hc hf
      exact B_X12_plan_33  C   ls _ _ h1 _ _ _ _ _  (lv_sub hl [0, 1, 2, 3, 4, 5] rfl) hR hS hf
    · have hf := x_in hc hf
      refine lv_aload_n hx hb dX12_plan_20 rfl (lv_at hl 0 rfl) ?_
      refine lv_iload hx hb dX12_plan_21 (lv_at hl 5 rfl) ?_
      obtain ⟨v_39, ev_39, hf⟩ := x_bd hf
      refine x_cVi1 C hR hS (S_X12_noPack  ev_39) (x_k hR 64 rfl) (by decide) rfl mf_X12_noPack tw_1802 (Nat.le_of_ble_eq_true rfl) (Nat.le_of_ble_eq_true rfl) hl.1 (Nat.le_of_ble_eq_true rfl) dX12_plan_23 ⟨Nat.le_refl _, Nat.le_refl _⟩ (fun H locs hR hS => ?_)
      have kM40 : ∀ (ls : Array Slot) (H : Heap) (locs : List Loc), lv_has ls 18 [(0, .ref (oX O + 64)), (1, .int v1), (2, .int v2), (3, .int v3), (4, .int v4), (5, .int v5)] → x_R O K h1 H → va_S (oA O) s.heap H locs → W p l e (x_rm 6 151) s m args below meth c H locs 0 0 (MQ below (x_Qc O K h' (some (.int r))) args s 0 0 (oA O)) (F0 m 34 ls [.int (if v_39 = 0 then 0 else 1), .ref (oX O + 64)]) := by
        intro ls H locs hl hR hS
        refine lv_iconst (v := 1) hx hb dX12_plan_34 rfl ?_
        obtain ⟨q41, eq41, hf⟩ := x_bd hf
        refine x_cVi2 C hR hS (S_X12_throwsIf  eq41) (x_k hR 64 rfl) (by decide) rfl mf_X12_throwsIf tw_1741 (Nat.le_of_ble_eq_true rfl) (Nat.le_of_ble_eq_true rfl) hl.1 (Nat.le_of_ble_eq_true rfl) dX12_plan_35 ⟨Nat.le_refl _, Nat.le_refl _⟩ (fun H locs hR hS => ?_)
        refine lv_if_eq (tgt := 43) hx hb dX12_plan_38 rfl (fun hc => ?_) (fun hc => ?_)
        · have hf := x_ip hc hf
          refine lv_iload_n hx hb dX12_plan_43 rfl (lv_at hl 2 rfl) ?_
          refine lv_iconst (v := 0) hx hb dX12_plan_44 rfl ?_
          refine lv_iconst (v := 1) hx hb dX12_plan_45 rfl ?_
          refine lv_aload_n hx hb dX12_plan_46 rfl (lv_at hl 0 rfl) ?_
          refine gf_12_1 C hR (x_k hR 64 rfl) tw_1544 dX12_plan_47 ?_
          refine lv_iconst (v := 1) hx hb dX12_plan_50 rfl ?_
          obtain ⟨g42, hf⟩ := x_gd hf
          refine x_iald C hR (x_k1 (x_k hR 65 rfl)) (x_k2 (x_k hR 65 rfl) g42) dX12_plan_51 ?_
          refine lv_ishl hx hb dX12_plan_52 ?_
          refine lv_iconst (v := 1) hx hb dX12_plan_53 rfl ?_
          refine lv_isub hx hb dX12_plan_54 ?_
          refine x_cSi3 C hR hS (S_X12_in  rfl) mf_X12_in tw_1756 (Nat.le_of_ble_eq_true rfl) (Nat.le_of_ble_eq_true rfl) hl.1 (Nat.le_of_ble_eq_true rfl) dX12_plan_55 ⟨Nat.le_refl _, Nat.le_refl _⟩ (fun H locs hR hS => ?_)
          have kM43 : ∀ (ls : Array Slot) (H : Heap) (locs : List Loc), lv_has ls 18 [(0, .ref (oX O + 64)), (1, .int v1), (2, .int v2), (3, .int v3), (4, .int v4), (5, .int v5)] → x_R O K q41.2 H → va_S (oA O) s.heap H locs → W p l e (x_rm 6 151) s m args below meth c H locs 0 0 (MQ below (x_Qc O K h' (some (.int r))) args s 0 0 (oA O)) (F0 m 91 ls [.int (if (f_X12_in q41.2 v2 0 ((x_shl 1 (q41.2.1 (oX O + 65) (1 : Int32).toNatClampNeg)) - 1)) = 0 then 1 else (if 5 < (f_J6_bitCount_0f7a4 q41.2 v2) then 1 else (if (f_X12_in q41.2 v3 1 3) = 0 then 1 else (if (f_X12_noSeconds q41.2 v4) = 0 then 0 else 1))))]) := by
            intro ls H locs hl hR hS
            obtain ⟨t44, et44, hf⟩ := x_lt hf
            refine x_nmi et44 ?_
            refine lv_istore (lv' := [(6, _), (0, _), (1, _), (2, _), (3, _), (4, _), (5, _)]) hx hb dX12_plan_91 hl (Nat.le_of_ble_eq_true rfl) rfl (fun ls hl => ?_)
            refine lv_iconst (v := 0) hx hb dX12_plan_93 rfl ?_
            refine lv_istore (lv' := [(7, _), (6, _), (0, _), (1, _), (2, _), (3, _), (4, _), (5, _)]) hx hb dX12_plan_94 hl (Nat.le_of_ble_eq_true rfl) rfl (fun ls hl => ?_)
            refine lv_iconst (v := 0) hx hb dX12_plan_96 rfl ?_
            refine lv_istore (lv' := [(8, _), (7, _), (6, _), (0, _), (1, _), (2, _), (3, _), (4, _), (5, _)]) hx hb dX12_plan_97 hl (Nat.le_of_ble_eq_true rfl) rfl (fun ls hl => ?_)
            exact B_X12_plan_99  C  x_FU ls _ _ q41.2 _ _ _ _ _ _ _ _  (lv_sub hl [3, 4, 5, 6, 7, 8, 2, 1, 0] rfl) hR hS hf
          refine lv_if_eq (tgt := 86) hx hb dX12_plan_58 rfl (fun hc => ?_) (fun hc => ?_)
          · try simp only [if_pos hc] at kM43
            refine lv_iconst (v := 1) hx hb dX12_plan_86 rfl ?_
            refine lv_goto (tgt := 91) hx hb dX12_plan_87 rfl ?_
            exact kM43 ls _ _ (lv_sub hl [0, 1, 2, 3, 4, 5] rfl) hR hS
          · try simp only [if_neg hc] at kM43
            refine lv_iload_n hx hb dX12_plan_61 rfl (lv_at hl 2 rfl) ?_
            refine x_cSi1 C hR hS (S_J6_bitCount_0f7a4  rfl) mf_J6_bitCount_0f7a4 tw_2036 (Nat.le_of_ble_eq_true rfl) (Nat.le_of_ble_eq_true rfl) hl.1 (Nat.le_of_ble_eq_true rfl) dX12_plan_62 ⟨Nat.le_refl _, Nat.le_refl _⟩ (fun H locs hR hS => ?_)
            refine lv_iconst (v := 5) hx hb dX12_plan_65 rfl ?_
            refine lv_icmp_gt (tgt := 86) hx hb dX12_plan_66 rfl (fun hc => ?_) (fun hc => ?_)
            · try simp only [if_pos hc] at kM43
              refine lv_iconst (v := 1) hx hb dX12_plan_86 rfl ?_
              refine lv_goto (tgt := 91) hx hb dX12_plan_87 rfl ?_
              exact kM43 ls _ _ (lv_sub hl [0, 1, 2, 3, 4, 5] rfl) hR hS
            · try simp only [if_neg hc] at kM43
              refine lv_iload_n hx hb dX12_plan_69 rfl (lv_at hl 3 rfl) ?_
              refine lv_iconst (v := 1) hx hb dX12_plan_70 rfl ?_
              refine lv_iconst (v := 3) hx hb dX12_plan_71 rfl ?_
              refine x_cSi3 C hR hS (S_X12_in  rfl) mf_X12_in tw_1756 (Nat.le_of_ble_eq_true rfl) (Nat.le_of_ble_eq_true rfl) hl.1 (Nat.le_of_ble_eq_true rfl) dX12_plan_72 ⟨Nat.le_refl _, Nat.le_refl _⟩ (fun H locs hR hS => ?_)
              refine lv_if_eq (tgt := 86) hx hb dX12_plan_75 rfl (fun hc => ?_) (fun hc => ?_)
              · try simp only [if_pos hc] at kM43
                refine lv_iconst (v := 1) hx hb dX12_plan_86 rfl ?_
                refine lv_goto (tgt := 91) hx hb dX12_plan_87 rfl ?_
                exact kM43 ls _ _ (lv_sub hl [0, 1, 2, 3, 4, 5] rfl) hR hS
              · try simp only [if_neg hc] at kM43
                refine lv_iload hx hb dX12_plan_78 (lv_at hl 4 rfl) ?_
                refine x_cSi1 C hR hS (S_X12_noSeconds  rfl) mf_X12_noSeconds tw_1822 (Nat.le_of_ble_eq_true rfl) (Nat.le_of_ble_eq_true rfl) hl.1 (Nat.le_of_ble_eq_true rfl) dX12_plan_80 ⟨Nat.le_refl _, Nat.le_refl _⟩ (fun H locs hR hS => ?_)
                refine lv_if_eq (tgt := 90) hx hb dX12_plan_83 rfl (fun hc => ?_) (fun hc => ?_)
                · try simp only [if_pos hc] at kM43
                  refine lv_iconst (v := 0) hx hb dX12_plan_90 rfl ?_
                  exact kM43 ls _ _ (lv_sub hl [0, 1, 2, 3, 4, 5] rfl) hR hS
                · try simp only [if_neg hc] at kM43
                  refine lv_iconst (v := 1) hx hb dX12_plan_86 rfl ?_
                  refine lv_goto (tgt := 91) hx hb dX12_plan_87 rfl ?_
                  exact kM43 ls _ _ (lv_sub hl [0, 1, 2, 3, 4, 5] rfl) hR hS
        · have hf := x_in hc hf
          refine lv_iconst (v := 0) hx hb dX12_plan_41 rfl ?_
          cases hf
          exact x_iret C hR hS dX12_plan_42
      refine lv_if_eq (tgt := 33) hx hb dX12_plan_26 rfl (fun hc => ?_) (fun hc => ?_)
      · try simp only [if_pos hc] at kM40
        refine lv_iconst (v := 0) hx hb dX12_plan_33 rfl ?_
        exact kM40 ls _ _ (lv_sub hl [0, 1, 2, 3, 4, 5] rfl) hR hS
      · try simp only [if_neg hc] at kM40
        refine lv_iconst (v := 1) hx hb dX12_plan_29 rfl ?_
        refine lv_goto (tgt := 34) hx hb dX12_plan_30 rfl ?_
        exact kM40 ls _ _ (lv_sub hl [0, 1, 2, 3, 4, 5] rfl) hR hS
def f_X12_last_42 (x : Nat) (h : XH) : Option (Int32 × XH) := some (0, h)
def f_X12_last_127 (k53 : XH → Int32 → Int32 → Int32 → Int32 → Int32 → Int32 → Option (Int32 × XH)) (x : Nat) (h : XH) (v1 : Int32) (v2 : Int32) (v3 : Int32) (v4 : Int32) (v5 : Int32) (v6 : Int32) : Option (Int32 × XH) := k53 h v1 v2 v3 v4 v5 (v6 + 1)
def f_X12_last_53 (x : Nat) : Nat → XH → Int32 → Int32 → Int32 → Int32 → Int32 → Int32 → Option (Int32 × XH)
  | 0, _, _, _, _, _, _, _ => none
  | n + 1, h, v1, v2, v3, v4, v5, v6 => if x_b 1 6927 = true then if (h.1 (x + 65) (1 : Int32).toNatClampNeg) ≤ v6 then some (v4, h) else if ((x_shr v2 v6) &&& 1) = 0 then f_X12_last_127 (f_X12_last_53 x n) x h v1 v2 v3 v4 v5 v6 else Option.bind (f_X12_isPut x h v6) (fun v_7 => if v_7 = 0 then f_X12_last_127 (f_X12_last_53 x n) x h v1 v2 v3 v4 v5 v6 else Option.bind (f_X12_awaitedIn x h v1 v6 0) (fun q8 => Option.bind (f_X12_awaitedIn x q8.2 v1 v6 v3) (fun q9 => f_X12_last_127 (f_X12_last_53 x n) x q9.2 v1 v2 v3 (if v4 < 0 then v6 else (if (q8.1 - q9.1) < v5 then v6 else v4)) (if v4 < 0 then (q8.1 - q9.1) else (if (q8.1 - q9.1) < v5 then (q8.1 - q9.1) else v5)) v6))) else none
def f_X12_last (x : Nat) (h : XH) (v1 : Int32) (v2 : Int32) (v3 : Int32) : Option (Int32 × XH) := x_let (x_i h (x + 64) 0 0) (fun h1 => Option.bind (f_X12_noLaw x h1 v1) (fun v_2 => Option.bind (f_X12_throwsIf x h1 v_2 1) (fun q3 => if q3.1 = 0 then Option.bind (f_X12_throwsIf x q3.2 (if (f_X12_in q3.2 v3 0 9999) = 0 then 1 else 0) 2) (fun q5 => if q5.1 = 0 then f_X12_last_53 x x_FU q5.2 v1 v2 v3 (-1) 0 0 else f_X12_last_42 x q5.2) else f_X12_last_42 x q3.2)))
set_option maxRecDepth 20000 in
theorem B_X12_last_42 {p : Program} {l : Launch} {e : Env} {s : State} {m : MethodId} {args : Array Value} {below : List Frame} {meth : Method} {c : Code} {O : XO} {K : XK} {r : Int32} {h' : XH}   (C : x_C p s m args meth c O cX12_last 8 RX12 (some .int))   (ls : Array Slot) (H : Heap) (locs : List Loc) (h : XH) (hl : lv_has ls 8 []) (hR : x_R O K h H) (hS : va_S (oA O) s.heap H locs) (hf : f_X12_last_42 (oX O) h = some (r, h')) : W p l e (x_rm 7 173) s m args below meth c H locs 0 0 (MQ below (x_Qc O K h' (some (.int r))) args s 0 0 (oA O)) (F0 m 42 ls []) := by
  have hx := C.1
  have hb := C.2.1
  rw [f_X12_last_42] at hf
  refine lv_iconst (v := 0) hx hb dX12_last_42 rfl ?_
  cases hf
  exact x_iret C hR hS dX12_last_43
set_option maxRecDepth 20000 in
theorem B_X12_last_127 {p : Program} {l : Launch} {e : Env} {s : State} {m : MethodId} {args : Array Value} {below : List Frame} {meth : Method} {c : Code} {O : XO} {K : XK} {r : Int32} {h' : XH}  {k53 : XH → Int32 → Int32 → Int32 → Int32 → Int32 → Int32 → Option (Int32 × XH)} (C : x_C p s m args meth c O cX12_last 8 RX12 (some .int)) (hk53 : ∀ (ls : Array Slot) (H : Heap) (locs : List Loc) (h : XH) (v1 : Int32) (v2 : Int32) (v3 : Int32) (v4 : Int32) (v5 : Int32) (v6 : Int32), lv_has ls 8 [(0, .ref (oX O + 64)), (1, .int v1), (2, .int v2), (3, .int v3), (4, .int v4), (5, .int v5), (6, .int v6)] → x_R O K h H → va_S (oA O) s.heap H locs → k53 h v1 v2 v3 v4 v5 v6 = some (r, h') → W p l e (x_rm 7 173) s m args below meth c H locs 0 0 (MQ below (x_Qc O K h' (some (.int r))) args s 0 0 (oA O)) (F0 m 53 ls []))  (ls : Array Slot) (H : Heap) (locs : List Loc) (h : XH) (v1 : Int32) (v2 : Int32) (v3 : Int32) (v4 : Int32) (v5 : Int32) (v6 : Int32) (hl : lv_has ls 8 [(0, .ref (oX O + 64)), (1, .int v1), (2, .int v2), (3, .int v3), (4, .int v4), (5, .int v5), (6, .int v6)]) (hR : x_R O K h H) (hS : va_S (oA O) s.heap H locs) (hf : f_X12_last_127 k53 (oX O) h v1 v2 v3 v4 v5 v6 = some (r, h')) : W p l e (x_rm 7 173) s m args below meth c H locs 0 0 (MQ below (x_Qc O K h' (some (.int r))) args s 0 0 (oA O)) (F0 m 127 ls []) := by
  have hx := C.1
  have hb := C.2.1
  rw [f_X12_last_127] at hf
  refine lv_iinc (k := 6) (v := _ + 1) (lv' := [(6, _), (0, _), (1, _), (2, _), (3, _), (4, _), (5, _)]) hx hb dX12_last_127 hl rfl (x_inc 1 1 rfl _) (Nat.le_of_ble_eq_true rfl) rfl (fun ls hl => ?_)
  refine lv_goto (tgt := 53) hx hb dX12_last_130 rfl ?_
  exact hk53 ls _ _ h _ _ _ _ _ _  (lv_sub hl [1, 2, 3, 4, 5, 6, 0] rfl) hR hS hf
set_option maxRecDepth 20000 in
theorem B_X12_last_53 {p : Program} {l : Launch} {e : Env} {s : State} {m : MethodId} {args : Array Value} {below : List Frame} {meth : Method} {c : Code} {O : XO} {K : XK} {r : Int32} {h' : XH}   (C : x_C p s m args meth c O cX12_last 8 RX12 (some .int))   : ∀ (n : Nat) (ls : Array Slot) (H : Heap) (locs : List Loc) (h : XH) (v1 : Int32) (v2 : Int32) (v3 : Int32) (v4 : Int32) (v5 : Int32) (v6 : Int32) (hl : lv_has ls 8 [(0, .ref (oX O + 64)), (1, .int v1), (2, .int v2), (3, .int v3), (4, .int v4), (5, .int v5), (6, .int v6)]) (hR : x_R O K h H) (hS : va_S (oA O) s.heap H locs) (hf : f_X12_last_53 (oX O) n h v1 v2 v3 v4 v5 v6 = some (r, h')), W p l e (x_rm 7 173) s m args below meth c H locs 0 0 (MQ below (x_Qc O K h' (some (.int r))) args s 0 0 (oA O)) (F0 m 53 ls []) := by
  have hx := C.1
  have hb := C.2.1
  intro n
  induction n with
  | zero =>
    intro ls H locs h v1 v2 v3 v4 v5 v6 hl hR hS hf
    rw [f_X12_last_53] at hf
    cases hf
  | succ n ih =>
    intro ls H locs h v1 v2 v3 v4 v5 v6 hl hR hS hf
    rw [f_X12_last_53] at hf
    refine lv_iload hx hb dX12_last_53 (lv_at hl 6 rfl) ?_
    refine lv_aload_n hx hb dX12_last_55 rfl (lv_at hl 0 rfl) ?_
    refine gf_12_1 C hR (x_k hR 64 rfl) tw_1544 dX12_last_56 ?_
    refine lv_iconst (v := 1) hx hb dX12_last_59 rfl ?_
    obtain ⟨g6, hf⟩ := x_gd hf
    refine x_iald C hR (x_k1 (x_k hR 65 rfl)) (x_k2 (x_k hR 65 rfl) g6) dX12_last_60 ?_
    refine lv_icmp_ge (tgt := 133) hx hb dX12_last_61 rfl (fun hc => ?_) (fun hc => ?_)
    · have hf := x_ip hc hf
      refine lv_iload hx hb dX12_last_133 (lv_at hl 4 rfl) ?_
      cases hf
      exact x_iret C hR hS dX12_last_135
    · have hf := x_in hc hf
      refine lv_iload_n hx hb dX12_last_64 rfl (lv_at hl 2 rfl) ?_
      refine lv_iload hx hb dX12_last_65 (lv_at hl 6 rfl) ?_
      refine lv_ishr hx hb dX12_last_67 ?_
      refine lv_iconst (v := 1) hx hb dX12_last_68 rfl ?_
      refine lv_iand hx hb dX12_last_69 ?_
      refine lv_if_eq (tgt := 127) hx hb dX12_last_70 rfl (fun hc => ?_) (fun hc => ?_)
      · have hf := x_ip hc hf
        exact B_X12_last_127  C ih  ls _ _ h _ _ _ _ _ _  (lv_sub hl [0, 1, 2, 3, 4, 5, 6] rfl) hR hS hf
      · have hf := x_in hc hf
        refine lv_aload_n hx hb dX12_last_73 rfl (lv_at hl 0 rfl) ?_
        refine lv_iload hx hb dX12_last_74 (lv_at hl 6 rfl) ?_
        obtain ⟨v_7, ev_7, hf⟩ := x_bd hf
        refine x_cVi1 C hR hS (S_X12_isPut  ev_7) (x_k hR 64 rfl) (by decide) rfl mf_X12_isPut tw_1818 (Nat.le_of_ble_eq_true rfl) (Nat.le_of_ble_eq_true rfl) hl.1 (Nat.le_of_ble_eq_true rfl) dX12_last_76 ⟨Nat.le_refl _, Nat.le_refl _⟩ (fun H locs hR hS => ?_)
        refine lv_if_ne (tgt := 85) hx hb dX12_last_79 rfl (fun hc => ?_) (fun hc => ?_)
        · have hf := x_in hc hf
          refine lv_aload_n hx hb dX12_last_85 rfl (lv_at hl 0 rfl) ?_
          refine lv_iload_n hx hb dX12_last_86 rfl (lv_at hl 1 rfl) ?_
          refine lv_iload hx hb dX12_last_87 (lv_at hl 6 rfl) ?_
          refine lv_iconst (v := 0) hx hb dX12_last_89 rfl ?_
          obtain ⟨q8, eq8, hf⟩ := x_bd hf
          refine x_cVi3 C hR hS (S_X12_awaitedIn  eq8) (x_k hR 64 rfl) (by decide) rfl mf_X12_awaitedIn tw_1907 (Nat.le_of_ble_eq_true rfl) (Nat.le_of_ble_eq_true rfl) hl.1 (Nat.le_of_ble_eq_true rfl) dX12_last_90 ⟨Nat.le_refl _, Nat.le_refl _⟩ (fun H locs hR hS => ?_)
          refine lv_aload_n hx hb dX12_last_93 rfl (lv_at hl 0 rfl) ?_
          refine lv_iload_n hx hb dX12_last_94 rfl (lv_at hl 1 rfl) ?_
          refine lv_iload hx hb dX12_last_95 (lv_at hl 6 rfl) ?_
          refine lv_iload_n hx hb dX12_last_97 rfl (lv_at hl 3 rfl) ?_
          obtain ⟨q9, eq9, hf⟩ := x_bd hf
          refine x_cVi3 C hR hS (S_X12_awaitedIn  eq9) (x_k hR 64 rfl) (by decide) rfl mf_X12_awaitedIn tw_1907 (Nat.le_of_ble_eq_true rfl) (Nat.le_of_ble_eq_true rfl) hl.1 (Nat.le_of_ble_eq_true rfl) dX12_last_98 ⟨Nat.le_refl _, Nat.le_refl _⟩ (fun H locs hR hS => ?_)
          refine lv_isub hx hb dX12_last_101 ?_
          refine lv_istore (lv' := [(7, _), (0, _), (1, _), (2, _), (3, _), (4, _), (5, _), (6, _)]) hx hb dX12_last_102 hl (Nat.le_of_ble_eq_true rfl) rfl (fun ls hl => ?_)
          refine lv_iload hx hb dX12_last_104 (lv_at hl 5 rfl) ?_
          have kM10 : ∀ (ls : Array Slot) (H : Heap) (locs : List Loc), lv_has ls 8 [(0, .ref (oX O + 64)), (1, .int v1), (2, .int v2), (3, .int v3), (4, .int (if v4 < 0 then v6 else (if (q8.1 - q9.1) < v5 then v6 else v4))), (5, .int (if v4 < 0 then (q8.1 - q9.1) else (if (q8.1 - q9.1) < v5 then (q8.1 - q9.1) else v5))), (6, .int v6)] → x_R O K q9.2 H → va_S (oA O) s.heap H locs → W p l e (x_rm 7 173) s m args below meth c H locs 0 0 (MQ below (x_Qc O K h' (some (.int r))) args s 0 0 (oA O)) (F0 m 127 ls []) := by
            intro ls H locs hl hR hS
            exact B_X12_last_127  C ih  ls _ _ q9.2 _ _ _ _ _ _  (lv_sub hl [0, 1, 2, 3, 4, 5, 6] rfl) hR hS hf
          refine lv_if_lt (tgt := 119) hx hb dX12_last_106 rfl (fun hc => ?_) (fun hc => ?_)
          · try simp only [if_pos hc] at kM10
            refine lv_iload hx hb dX12_last_119 (lv_at hl 7 rfl) ?_
            refine lv_istore (lv' := [(4, _), (7, _), (0, _), (1, _), (2, _), (3, _), (5, _), (6, _)]) hx hb dX12_last_121 hl (Nat.le_of_ble_eq_true rfl) rfl (fun ls hl => ?_)
            refine lv_iload hx hb dX12_last_123 (lv_at hl 1 rfl) ?_
            refine lv_istore (lv' := [(5, _), (4, _), (7, _), (0, _), (1, _), (2, _), (3, _), (6, _)]) hx hb dX12_last_125 hl (Nat.le_of_ble_eq_true rfl) rfl (fun ls hl => ?_)
            exact kM10 ls _ _ (lv_sub hl [3, 4, 5, 6, 1, 0, 7] rfl) hR hS
          · try simp only [if_neg hc] at kM10
            refine lv_iload hx hb dX12_last_109 (lv_at hl 0 rfl) ?_
            refine lv_iload hx hb dX12_last_111 (lv_at hl 6 rfl) ?_
            refine lv_icmp_lt (tgt := 119) hx hb dX12_last_113 rfl (fun hc => ?_) (fun hc => ?_)
            · try simp only [if_pos hc] at kM10
              refine lv_iload hx hb dX12_last_119 (lv_at hl 7 rfl) ?_
              refine lv_istore (lv' := [(4, _), (7, _), (0, _), (1, _), (2, _), (3, _), (5, _), (6, _)]) hx hb dX12_last_121 hl (Nat.le_of_ble_eq_true rfl) rfl (fun ls hl => ?_)
              refine lv_iload hx hb dX12_last_123 (lv_at hl 1 rfl) ?_
              refine lv_istore (lv' := [(5, _), (4, _), (7, _), (0, _), (1, _), (2, _), (3, _), (6, _)]) hx hb dX12_last_125 hl (Nat.le_of_ble_eq_true rfl) rfl (fun ls hl => ?_)
              exact kM10 ls _ _ (lv_sub hl [3, 4, 5, 6, 1, 0, 7] rfl) hR hS
            · try simp only [if_neg hc] at kM10
              refine lv_goto (tgt := 127) hx hb dX12_last_116 rfl ?_
              exact kM10 ls _ _ (lv_sub hl [1, 2, 3, 4, 5, 6, 7] rfl) hR hS
        · have hf := x_ip hc hf
          refine lv_goto (tgt := 127) hx hb dX12_last_82 rfl ?_
          exact B_X12_last_127  C ih  ls _ _ h _ _ _ _ _ _  (lv_sub hl [0, 1, 2, 3, 4, 5, 6] rfl) hR hS hf
set_option maxRecDepth 20000 in
theorem S_X12_last {l : Launch} {O : XO} {K : XK} {h : XH} {v1 : Int32} {v2 : Int32} {v3 : Int32}  {r : Int32} {h' : XH}  (hf : f_X12_last (oX O) h v1 v2 v3 = some (r, h')) : x_M l O K yX12_last cX12_last 8 (some .int) 7 173 h [.ref (oX O + 64), .int v1, .int v2, .int v3] (some (.int r)) h' := by
  refine x_enter (by decide) (Nat.le_of_ble_eq_true rfl) (fun p e s m args below meth c C hR ls hl => ?_)
  have hS : va_S (oA O) s.heap s.heap [] := va_S.rf
  have hx := C.1
  have hb := C.2.1
  have hl : lv_has ls 8 [(0, .ref (oX O + 64)), (1, .int v1), (2, .int v2), (3, .int v3)] := hl
  rw [f_X12_last] at hf
  refine lv_aload_n hx hb dX12_last_0 rfl (lv_at hl 0 rfl) ?_
  refine lv_iconst (v := 0) hx hb dX12_last_1 rfl ?_
  obtain ⟨h1, eh1, hf⟩ := x_lt hf
  refine pf_12_0 C hR hS (x_k hR 64 rfl) tw_1543 dX12_last_2 (fun H locs hR hS => ?_)
  rw [← eh1] at hR
  refine lv_aload_n hx hb dX12_last_5 rfl (lv_at hl 0 rfl) ?_
  refine lv_aload_n hx hb dX12_last_6 rfl (lv_at hl 0 rfl) ?_
  refine lv_iload_n hx hb dX12_last_7 rfl (lv_at hl 1 rfl) ?_
  obtain ⟨v_2, ev_2, hf⟩ := x_bd hf
  refine x_cVi1 C hR hS (S_X12_noLaw  ev_2) (x_k hR 64 rfl) (by decide) rfl mf_X12_noLaw tw_1881 (Nat.le_of_ble_eq_true rfl) (Nat.le_of_ble_eq_true rfl) hl.1 (Nat.le_of_ble_eq_true rfl) dX12_last_8 ⟨Nat.le_refl _, Nat.le_refl _⟩ (fun H locs hR hS => ?_)
  refine lv_iconst (v := 1) hx hb dX12_last_11 rfl ?_
  obtain ⟨q3, eq3, hf⟩ := x_bd hf
  refine x_cVi2 C hR hS (S_X12_throwsIf  eq3) (x_k hR 64 rfl) (by decide) rfl mf_X12_throwsIf tw_1741 (Nat.le_of_ble_eq_true rfl) (Nat.le_of_ble_eq_true rfl) hl.1 (Nat.le_of_ble_eq_true rfl) dX12_last_12 ⟨Nat.le_refl _, Nat.le_refl _⟩ (fun H locs hR hS => ?_)
  refine lv_if_ne (tgt := 42) hx hb dX12_last_15 rfl (fun hc => ?_) (fun hc => ?_)
  · have hf := x_in hc hf
    exact B_X12_last_42  C   ls _ _ q3.2  (lv_sub hl [] rfl) hR hS hf
  · have hf := x_ip hc hf
    refine lv_aload_n hx hb dX12_last_18 rfl (lv_at hl 0 rfl) ?_
    refine lv_iload_n hx hb dX12_last_19 rfl (lv_at hl 3 rfl) ?_
    refine lv_iconst (v := 0) hx hb dX12_last_20 rfl ?_
    refine lv_sipush (v := 9999) hx hb dX12_last_21 rfl ?_
    refine x_cSi3 C hR hS (S_X12_in  rfl) mf_X12_in tw_1756 (Nat.le_of_ble_eq_true rfl) (Nat.le_of_ble_eq_true rfl) hl.1 (Nat.le_of_ble_eq_true rfl) dX12_last_24 ⟨Nat.le_refl _, Nat.le_refl _⟩ (fun H locs hR hS => ?_)
    have kM4 : ∀ (ls : Array Slot) (H : Heap) (locs : List Loc), lv_has ls 8 [(0, .ref (oX O + 64)), (1, .int v1), (2, .int v2), (3, .int v3)] → x_R O K q3.2 H → va_S (oA O) s.heap H locs → W p l e (x_rm 7 173) s m args below meth c H locs 0 0 (MQ below (x_Qc O K h' (some (.int r))) args s 0 0 (oA O)) (F0 m 35 ls [.int (if (f_X12_in q3.2 v3 0 9999) = 0 then 1 else 0), .ref (oX O + 64)]) := by
      intro ls H locs hl hR hS
      refine lv_iconst (v := 2) hx hb dX12_last_35 rfl ?_
      obtain ⟨q5, eq5, hf⟩ := x_bd hf
      refine x_cVi2 C hR hS (S_X12_throwsIf  eq5) (x_k hR 64 rfl) (by decide) rfl mf_X12_throwsIf tw_1741 (Nat.le_of_ble_eq_true rfl) (Nat.le_of_ble_eq_true rfl) hl.1 (Nat.le_of_ble_eq_true rfl) dX12_last_36 ⟨Nat.le_refl _, Nat.le_refl _⟩ (fun H locs hR hS => ?_)
      refine lv_if_eq (tgt := 44) hx hb dX12_last_39 rfl (fun hc => ?_) (fun hc => ?_)
      · have hf := x_ip hc hf
        refine lv_iconst (v := (-1)) hx hb dX12_last_44 rfl ?_
        refine lv_istore (lv' := [(4, _), (0, _), (1, _), (2, _), (3, _)]) hx hb dX12_last_45 hl (Nat.le_of_ble_eq_true rfl) rfl (fun ls hl => ?_)
        refine lv_iconst (v := 0) hx hb dX12_last_47 rfl ?_
        refine lv_istore (lv' := [(5, _), (4, _), (0, _), (1, _), (2, _), (3, _)]) hx hb dX12_last_48 hl (Nat.le_of_ble_eq_true rfl) rfl (fun ls hl => ?_)
        refine lv_iconst (v := 0) hx hb dX12_last_50 rfl ?_
        refine lv_istore (lv' := [(6, _), (5, _), (4, _), (0, _), (1, _), (2, _), (3, _)]) hx hb dX12_last_51 hl (Nat.le_of_ble_eq_true rfl) rfl (fun ls hl => ?_)
        exact B_X12_last_53  C  x_FU ls _ _ q5.2 _ _ _ _ _ _  (lv_sub hl [3, 4, 5, 6, 2, 1, 0] rfl) hR hS hf
      · have hf := x_in hc hf
        exact B_X12_last_42  C   ls _ _ q5.2  (lv_sub hl [] rfl) hR hS hf
    refine lv_if_ne (tgt := 34) hx hb dX12_last_27 rfl (fun hc => ?_) (fun hc => ?_)
    · try simp only [if_neg hc] at kM4
      refine lv_iconst (v := 0) hx hb dX12_last_34 rfl ?_
      exact kM4 ls _ _ (lv_sub hl [0, 1, 2, 3] rfl) hR hS
    · try simp only [if_pos hc] at kM4
      refine lv_iconst (v := 1) hx hb dX12_last_30 rfl ?_
      refine lv_goto (tgt := 35) hx hb dX12_last_31 rfl ?_
      exact kM4 ls _ _ (lv_sub hl [0, 1, 2, 3] rfl) hR hS
def f_X12_oddsOf_99 (x : Nat) (h : XH) : Nat → Int64 → Int32 → Option Int64
  | 0, _, _ => none
  | n + 1, v5, v7 => if 6 ≤ v7 then some v5 else f_X12_oddsOf_99 x h n (v5 * 100) (v7 + 1)
def f_X12_oddsOf_90 (k20 : Int32 → Int32 → Int64 → Int64 → Int32 → Option Int64) (x : Nat) (h : XH) (v1 : Int32) (v2 : Int32) (v3 : Int64) (v5 : Int64) (v7 : Int32) : Option Int64 := k20 v1 v2 v3 v5 (v7 + 1)
def f_X12_oddsOf_46 (k20 : Int32 → Int32 → Int64 → Int64 → Int32 → Option Int64) (x : Nat) (h : XH) : Nat → Int32 → Int32 → Int64 → Int64 → Int32 → Int64 → Int32 → Option Int64
  | 0, _, _, _, _, _, _, _ => none
  | n + 1, v1, v2, v3, v5, v7, v8, v10 => if v1 ≤ v10 then f_X12_oddsOf_90 k20 x h v1 v2 v3 (v5 + v8) v7 else x_let ((v8 * (if ((x_shr v7 v10) &&& 1) = 1 then v3 else (100 - v3))) : Int64) (fun t4 => f_X12_oddsOf_46 k20 x h n v1 v2 v3 v5 v7 t4 (v10 + 1))
def f_X12_oddsOf_20 (x : Nat) (h : XH) : Nat → Int32 → Int32 → Int64 → Int64 → Int32 → Option Int64
  | 0, _, _, _, _, _ => none
  | n + 1, v1, v2, v3, v5, v7 => if (x_shl 1 v1) ≤ v7 then f_X12_oddsOf_99 x h x_FU v5 v1 else if v2 ≤ (f_J6_bitCount_0f7a4 h v7) then f_X12_oddsOf_46 (f_X12_oddsOf_20 x h n) x h x_FU v1 v2 v3 v5 v7 1 0 else f_X12_oddsOf_90 (f_X12_oddsOf_20 x h n) x h v1 v2 v3 v5 v7
def f_X12_oddsOf (x : Nat) (h : XH) (v1 : Int32) (v2 : Int32) : Option Int64 := if x_b ((964 + v1) - 1) 6927 = true then x_let ((h.1 (x + 65) ((964 + v1) - 1).toNatClampNeg).toInt64 : Int64) (fun t2 => f_X12_oddsOf_20 x h x_FU v1 v2 t2 0 0) else none
set_option maxRecDepth 20000 in
theorem B_X12_oddsOf_99 {p : Program} {l : Launch} {e : Env} {s : State} {m : MethodId} {args : Array Value} {below : List Frame} {meth : Method} {c : Code} {O : XO} {K : XK} {h : XH} {r : Int64}   (C : x_C p s m args meth c O cX12_oddsOf 11 RX12 (some .long))   : ∀ (n : Nat) (ls : Array Slot) (H : Heap) (locs : List Loc) (v5 : Int64) (v7 : Int32) (hl : lv_has ls 11 [(5, .long v5), (7, .int v7)]) (hR : x_R O K h H) (hS : va_S (oA O) s.heap H locs) (hf : f_X12_oddsOf_99 (oX O) h n v5 v7 = some r), W p l e (x_rm 1 20) s m args below meth c H locs 0 0 (MQ below (x_Qc O K h (some (.long r))) args s 0 0 (oA O)) (F0 m 99 ls []) := by
  have hx := C.1
  have hb := C.2.1
  intro n
  induction n with
  | zero =>
    intro ls H locs v5 v7 hl hR hS hf
    rw [f_X12_oddsOf_99] at hf
    cases hf
  | succ n ih =>
    intro ls H locs v5 v7 hl hR hS hf
    rw [f_X12_oddsOf_99] at hf
    refine lv_iload hx hb dX12_oddsOf_99 (lv_at hl 1 rfl) ?_
    refine lv_bipush (v := 6) hx hb dX12_oddsOf_101 rfl ?_
    refine lv_icmp_ge (tgt := 120) hx hb dX12_oddsOf_103 rfl (fun hc => ?_) (fun hc => ?_)
    · have hf := x_ip hc hf
      refine lv_lload hx hb dX12_oddsOf_120 (lv_at hl 0 rfl) ?_
      cases hf
      exact x_lret C hR hS dX12_oddsOf_122
    · have hf := x_in hc hf
      refine lv_lload hx hb dX12_oddsOf_106 (lv_at hl 0 rfl) ?_
      refine lv_ldc2 hx hb C.2.2.2.1 (C.2.2.2.2.1 _ tw_2073) dX12_oddsOf_108 ?_
      refine lv_lmul hx hb dX12_oddsOf_111 ?_
      refine lv_lstore (lv' := [(5, _), (7, _)]) hx hb dX12_oddsOf_112 hl (Nat.le_of_ble_eq_true rfl) rfl (fun ls hl => ?_)
      refine lv_iinc (k := 1) (v := _ + 1) (lv' := [(7, _), (5, _)]) hx hb dX12_oddsOf_114 hl rfl (x_inc 1 1 rfl _) (Nat.le_of_ble_eq_true rfl) rfl (fun ls hl => ?_)
      refine lv_goto (tgt := 99) hx hb dX12_oddsOf_117 rfl ?_
      exact ih ls _ _ _ _  (lv_sub hl [1, 0] rfl) hR hS hf
set_option maxRecDepth 20000 in
theorem B_X12_oddsOf_90 {p : Program} {l : Launch} {e : Env} {s : State} {m : MethodId} {args : Array Value} {below : List Frame} {meth : Method} {c : Code} {O : XO} {K : XK} {h : XH} {r : Int64}  {k20 : Int32 → Int32 → Int64 → Int64 → Int32 → Option Int64} (C : x_C p s m args meth c O cX12_oddsOf 11 RX12 (some .long)) (hk20 : ∀ (ls : Array Slot) (H : Heap) (locs : List Loc) (v1 : Int32) (v2 : Int32) (v3 : Int64) (v5 : Int64) (v7 : Int32), lv_has ls 11 [(1, .int v1), (2, .int v2), (3, .long v3), (5, .long v5), (7, .int v7)] → x_R O K h H → va_S (oA O) s.heap H locs → k20 v1 v2 v3 v5 v7 = some r → W p l e (x_rm 1 20) s m args below meth c H locs 0 0 (MQ below (x_Qc O K h (some (.long r))) args s 0 0 (oA O)) (F0 m 20 ls []))  (ls : Array Slot) (H : Heap) (locs : List Loc) (v1 : Int32) (v2 : Int32) (v3 : Int64) (v5 : Int64) (v7 : Int32) (hl : lv_has ls 11 [(1, .int v1), (2, .int v2), (3, .long v3), (5, .long v5), (7, .int v7)]) (hR : x_R O K h H) (hS : va_S (oA O) s.heap H locs) (hf : f_X12_oddsOf_90 k20 (oX O) h v1 v2 v3 v5 v7 = some r) : W p l e (x_rm 1 20) s m args below meth c H locs 0 0 (MQ below (x_Qc O K h (some (.long r))) args s 0 0 (oA O)) (F0 m 90 ls []) := by
  have hx := C.1
  have hb := C.2.1
  rw [f_X12_oddsOf_90] at hf
  refine lv_iinc (k := 4) (v := _ + 1) (lv' := [(7, _), (1, _), (2, _), (3, _), (5, _)]) hx hb dX12_oddsOf_90 hl rfl (x_inc 1 1 rfl _) (Nat.le_of_ble_eq_true rfl) rfl (fun ls hl => ?_)
  refine lv_goto (tgt := 20) hx hb dX12_oddsOf_93 rfl ?_
  exact hk20 ls _ _ _ _ _ _ _  (lv_sub hl [1, 2, 3, 4, 0] rfl) hR hS hf
set_option maxRecDepth 20000 in
theorem B_X12_oddsOf_46 {p : Program} {l : Launch} {e : Env} {s : State} {m : MethodId} {args : Array Value} {below : List Frame} {meth : Method} {c : Code} {O : XO} {K : XK} {h : XH} {r : Int64}  {k20 : Int32 → Int32 → Int64 → Int64 → Int32 → Option Int64} (C : x_C p s m args meth c O cX12_oddsOf 11 RX12 (some .long)) (hk20 : ∀ (ls : Array Slot) (H : Heap) (locs : List Loc) (v1 : Int32) (v2 : Int32) (v3 : Int64) (v5 : Int64) (v7 : Int32), lv_has ls 11 [(1, .int v1), (2, .int v2), (3, .long v3), (5, .long v5), (7, .int v7)] → x_R O K h H → va_S (oA O) s.heap H locs → k20 v1 v2 v3 v5 v7 = some r → W p l e (x_rm 1 20) s m args below meth c H locs 0 0 (MQ below (x_Qc O K h (some (.long r))) args s 0 0 (oA O)) (F0 m 20 ls []))  : ∀ (n : Nat) (ls : Array Slot) (H : Heap) (locs : List Loc) (v1 : Int32) (v2 : Int32) (v3 : Int64) (v5 : Int64) (v7 : Int32) (v8 : Int64) (v10 : Int32) (hl : lv_has ls 11 [(1, .int v1), (2, .int v2), (3, .long v3), (5, .long v5), (7, .int v7), (8, .long v8), (10, .int v10)]) (hR : x_R O K h H) (hS : va_S (oA O) s.heap H locs) (hf : f_X12_oddsOf_46 k20 (oX O) h n v1 v2 v3 v5 v7 v8 v10 = some r), W p l e (x_rm 1 20) s m args below meth c H locs 0 0 (MQ below (x_Qc O K h (some (.long r))) args s 0 0 (oA O)) (F0 m 46 ls []) := by
  have hx := C.1
  have hb := C.2.1
  intro n
  induction n with
  | zero =>
    intro ls H locs v1 v2 v3 v5 v7 v8 v10 hl hR hS hf
    rw [f_X12_oddsOf_46] at hf
    cases hf
  | succ n ih =>
    intro ls H locs v1 v2 v3 v5 v7 v8 v10 hl hR hS hf
    rw [f_X12_oddsOf_46] at hf
    refine lv_iload hx hb dX12_oddsOf_46 (lv_at hl 6 rfl) ?_
    refine lv_iload_n hx hb dX12_oddsOf_48 rfl (lv_at hl 0 rfl) ?_
    refine lv_icmp_ge (tgt := 83) hx hb dX12_oddsOf_49 rfl (fun hc => ?_) (fun hc => ?_)
    · have hf := x_ip hc hf
      refine lv_lload hx hb dX12_oddsOf_83 (lv_at hl 3 rfl) ?_
      refine lv_lload hx hb dX12_oddsOf_85 (lv_at hl 5 rfl) ?_
      refine lv_ladd hx hb dX12_oddsOf_87 ?_
      refine lv_lstore (lv' := [(5, _), (1, _), (2, _), (3, _), (7, _), (8, _), (10, _)]) hx hb dX12_oddsOf_88 hl (Nat.le_of_ble_eq_true rfl) rfl (fun ls hl => ?_)
      exact B_X12_oddsOf_90  C hk20  ls _ _ _ _ _ _ _  (lv_sub hl [1, 2, 3, 0, 4] rfl) hR hS hf
    · have hf := x_in hc hf
      refine lv_lload hx hb dX12_oddsOf_52 (lv_at hl 5 rfl) ?_
      refine lv_iload hx hb dX12_oddsOf_54 (lv_at hl 4 rfl) ?_
      refine lv_iload hx hb dX12_oddsOf_56 (lv_at hl 6 rfl) ?_
      refine lv_ishr hx hb dX12_oddsOf_58 ?_
      refine lv_iconst (v := 1) hx hb dX12_oddsOf_59 rfl ?_
      refine lv_iand hx hb dX12_oddsOf_60 ?_
      refine lv_iconst (v := 1) hx hb dX12_oddsOf_61 rfl ?_
      have kM3 : ∀ (ls : Array Slot) (H : Heap) (locs : List Loc), lv_has ls 11 [(1, .int v1), (2, .int v2), (3, .long v3), (5, .long v5), (7, .int v7), (10, .int v10)] → x_R O K h H → va_S (oA O) s.heap H locs → W p l e (x_rm 1 20) s m args below meth c H locs 0 0 (MQ below (x_Qc O K h (some (.long r))) args s 0 0 (oA O)) (F0 m 74 ls [.long (if ((x_shr v7 v10) &&& 1) = 1 then v3 else (100 - v3)), .long v8]) := by
        intro ls H locs hl hR hS
        refine lv_lmul hx hb dX12_oddsOf_74 ?_
        obtain ⟨t4, et4, hf⟩ := x_lt hf
        refine x_nml et4 ?_
        refine lv_lstore (lv' := [(8, _), (1, _), (2, _), (3, _), (5, _), (7, _), (10, _)]) hx hb dX12_oddsOf_75 hl (Nat.le_of_ble_eq_true rfl) rfl (fun ls hl => ?_)
        refine lv_iinc (k := 6) (v := _ + 1) (lv' := [(10, _), (8, _), (1, _), (2, _), (3, _), (5, _), (7, _)]) hx hb dX12_oddsOf_77 hl rfl (x_inc 1 1 rfl _) (Nat.le_of_ble_eq_true rfl) rfl (fun ls hl => ?_)
        refine lv_goto (tgt := 46) hx hb dX12_oddsOf_80 rfl ?_
        exact ih ls _ _ _ _ _ _ _ _ _  (lv_sub hl [2, 3, 4, 5, 6, 1, 0] rfl) hR hS hf
      refine lv_icmp_ne (tgt := 69) hx hb dX12_oddsOf_62 rfl (fun hc => ?_) (fun hc => ?_)
      · try simp only [if_neg hc] at kM3
        refine lv_ldc2 hx hb C.2.2.2.1 (C.2.2.2.2.1 _ tw_2073) dX12_oddsOf_69 ?_
        refine lv_lload_n hx hb dX12_oddsOf_72 rfl (lv_at hl 2 rfl) ?_
        refine lv_lsub hx hb dX12_oddsOf_73 ?_
        exact kM3 ls _ _ (lv_sub hl [0, 1, 2, 3, 4, 6] rfl) hR hS
      · try simp only [if_pos hc] at kM3
        refine lv_lload_n hx hb dX12_oddsOf_65 rfl (lv_at hl 2 rfl) ?_
        refine lv_goto (tgt := 74) hx hb dX12_oddsOf_66 rfl ?_
        exact kM3 ls _ _ (lv_sub hl [0, 1, 2, 3, 4, 6] rfl) hR hS
set_option maxRecDepth 20000 in
theorem B_X12_oddsOf_20 {p : Program} {l : Launch} {e : Env} {s : State} {m : MethodId} {args : Array Value} {below : List Frame} {meth : Method} {c : Code} {O : XO} {K : XK} {h : XH} {r : Int64}   (C : x_C p s m args meth c O cX12_oddsOf 11 RX12 (some .long))   : ∀ (n : Nat) (ls : Array Slot) (H : Heap) (locs : List Loc) (v1 : Int32) (v2 : Int32) (v3 : Int64) (v5 : Int64) (v7 : Int32) (hl : lv_has ls 11 [(1, .int v1), (2, .int v2), (3, .long v3), (5, .long v5), (7, .int v7)]) (hR : x_R O K h H) (hS : va_S (oA O) s.heap H locs) (hf : f_X12_oddsOf_20 (oX O) h n v1 v2 v3 v5 v7 = some r), W p l e (x_rm 1 20) s m args below meth c H locs 0 0 (MQ below (x_Qc O K h (some (.long r))) args s 0 0 (oA O)) (F0 m 20 ls []) := by
  have hx := C.1
  have hb := C.2.1
  intro n
  induction n with
  | zero =>
    intro ls H locs v1 v2 v3 v5 v7 hl hR hS hf
    rw [f_X12_oddsOf_20] at hf
    cases hf
  | succ n ih =>
    intro ls H locs v1 v2 v3 v5 v7 hl hR hS hf
    rw [f_X12_oddsOf_20] at hf
    refine lv_iload hx hb dX12_oddsOf_20 (lv_at hl 4 rfl) ?_
    refine lv_iconst (v := 1) hx hb dX12_oddsOf_22 rfl ?_
    refine lv_iload_n hx hb dX12_oddsOf_23 rfl (lv_at hl 0 rfl) ?_
    refine lv_ishl hx hb dX12_oddsOf_24 ?_
    refine lv_icmp_ge (tgt := 96) hx hb dX12_oddsOf_25 rfl (fun hc => ?_) (fun hc => ?_)
    · have hf := x_ip hc hf
      refine lv_iload_n hx hb dX12_oddsOf_96 rfl (lv_at hl 0 rfl) ?_
      refine lv_istore (lv' := [(7, _), (1, _), (2, _), (3, _), (5, _)]) hx hb dX12_oddsOf_97 hl (Nat.le_of_ble_eq_true rfl) rfl (fun ls hl => ?_)
      exact B_X12_oddsOf_99  C  x_FU ls _ _ _ _  (lv_sub hl [4, 0] rfl) hR hS hf
    · have hf := x_in hc hf
      refine lv_iload hx hb dX12_oddsOf_28 (lv_at hl 4 rfl) ?_
      refine x_cSi1 C hR hS (S_J6_bitCount_0f7a4  rfl) mf_J6_bitCount_0f7a4 tw_2036 (Nat.le_of_ble_eq_true rfl) (Nat.le_of_ble_eq_true rfl) hl.1 (Nat.le_of_ble_eq_true rfl) dX12_oddsOf_30 ⟨Nat.le_refl _, Nat.le_refl _⟩ (fun H locs hR hS => ?_)
      refine lv_iload_n hx hb dX12_oddsOf_33 rfl (lv_at hl 1 rfl) ?_
      refine lv_icmp_ge (tgt := 40) hx hb dX12_oddsOf_34 rfl (fun hc => ?_) (fun hc => ?_)
      · have hf := x_ip hc hf
        refine lv_lconst (v := 1) hx hb dX12_oddsOf_40 rfl ?_
        refine lv_lstore (lv' := [(8, _), (1, _), (2, _), (3, _), (5, _), (7, _)]) hx hb dX12_oddsOf_41 hl (Nat.le_of_ble_eq_true rfl) rfl (fun ls hl => ?_)
        refine lv_iconst (v := 0) hx hb dX12_oddsOf_43 rfl ?_
        refine lv_istore (lv' := [(10, _), (8, _), (1, _), (2, _), (3, _), (5, _), (7, _)]) hx hb dX12_oddsOf_44 hl (Nat.le_of_ble_eq_true rfl) rfl (fun ls hl => ?_)
        exact B_X12_oddsOf_46  C ih x_FU ls _ _ _ _ _ _ _ _ _  (lv_sub hl [2, 3, 4, 5, 6, 1, 0] rfl) hR hS hf
      · have hf := x_in hc hf
        refine lv_goto (tgt := 90) hx hb dX12_oddsOf_37 rfl ?_
        exact B_X12_oddsOf_90  C ih  ls _ _ _ _ _ _ _  (lv_sub hl [0, 1, 2, 3, 4] rfl) hR hS hf
set_option maxRecDepth 20000 in
theorem S_X12_oddsOf {l : Launch} {O : XO} {K : XK} {h : XH} {v1 : Int32} {v2 : Int32}  {r : Int64}  (hf : f_X12_oddsOf (oX O) h v1 v2 = some r) : x_M l O K yX12_oddsOf cX12_oddsOf 11 (some .long) 1 20 h [.ref (oX O + 64), .int v1, .int v2] (some (.long r)) h := by
  refine x_enter (by decide) (Nat.le_of_ble_eq_true rfl) (fun p e s m args below meth c C hR ls hl => ?_)
  have hS : va_S (oA O) s.heap s.heap [] := va_S.rf
  have hx := C.1
  have hb := C.2.1
  have hl : lv_has ls 11 [(0, .ref (oX O + 64)), (1, .int v1), (2, .int v2)] := hl
  rw [f_X12_oddsOf] at hf
  refine lv_aload_n hx hb dX12_oddsOf_0 rfl (lv_at hl 0 rfl) ?_
  refine gf_12_1 C hR (x_k hR 64 rfl) tw_1544 dX12_oddsOf_1 ?_
  refine lv_sipush (v := 964) hx hb dX12_oddsOf_4 rfl ?_
  refine lv_iload_n hx hb dX12_oddsOf_7 rfl (lv_at hl 1 rfl) ?_
  refine lv_iadd hx hb dX12_oddsOf_8 ?_
  refine lv_iconst (v := 1) hx hb dX12_oddsOf_9 rfl ?_
  refine lv_isub hx hb dX12_oddsOf_10 ?_
  obtain ⟨g1, hf⟩ := x_gd hf
  refine x_iald C hR (x_k1 (x_k hR 65 rfl)) (x_k2 (x_k hR 65 rfl) g1) dX12_oddsOf_11 ?_
  refine lv_i2l hx hb dX12_oddsOf_12 rfl ?_
  obtain ⟨t2, et2, hf⟩ := x_lt hf
  refine x_nml et2 ?_
  refine lv_lstore_n (lv' := [(3, _), (0, _), (1, _), (2, _)]) hx hb dX12_oddsOf_13 rfl hl (Nat.le_of_ble_eq_true rfl) rfl (fun ls hl => ?_)
  refine lv_lconst (v := 0) hx hb dX12_oddsOf_14 rfl ?_
  refine lv_lstore (lv' := [(5, _), (3, _), (0, _), (1, _), (2, _)]) hx hb dX12_oddsOf_15 hl (Nat.le_of_ble_eq_true rfl) rfl (fun ls hl => ?_)
  refine lv_iconst (v := 0) hx hb dX12_oddsOf_17 rfl ?_
  refine lv_istore (lv' := [(7, _), (5, _), (3, _), (0, _), (1, _), (2, _)]) hx hb dX12_oddsOf_18 hl (Nat.le_of_ble_eq_true rfl) rfl (fun ls hl => ?_)
  exact B_X12_oddsOf_20  C  x_FU ls _ _ _ _ _ _ _  (lv_sub hl [4, 5, 2, 1, 0] rfl) hR hS hf
def f_X12_risk_35 (x : Nat) : Nat → XH → Int32 → Int32 → Int32 → Int32 → Option (Int64 × XH)
  | 0, _, _, _, _, _ => none
  | n + 1, h, v1, v2, v3, v4 => if 6 < v4 then if v2 = 0 then some (v3.toInt64, h) else Option.bind (f_X12_oddsOf x h v3 v1) (fun v_4 => some (v_4, h)) else Option.bind (f_X12_oddsOf x h v4 v1) (fun v_5 => Option.bind (f_X12_oddsOf x h v3 v1) (fun v_6 => f_X12_risk_35 x n h v1 v2 (if (lg_cmp v_5 v_6) ≤ 0 then v3 else v4) (v4 + 1)))
def f_X12_risk (x : Nat) (h : XH) (v1 : Int32) (v2 : Int32) : Option (Int64 × XH) := x_let (x_i h (x + 64) 0 0) (fun h1 => Option.bind (f_X12_throwsIf x h1 (if (f_X12_in h1 v1 0 6) = 0 then 1 else 0) 1) (fun q3 => if q3.1 = 0 then f_X12_risk_35 x x_FU q3.2 v1 v2 1 2 else some (0, q3.2)))
set_option maxRecDepth 20000 in
theorem B_X12_risk_35 {p : Program} {l : Launch} {e : Env} {s : State} {m : MethodId} {args : Array Value} {below : List Frame} {meth : Method} {c : Code} {O : XO} {K : XK} {r : Int64} {h' : XH}   (C : x_C p s m args meth c O cX12_risk 5 RX12 (some .long))   : ∀ (n : Nat) (ls : Array Slot) (H : Heap) (locs : List Loc) (h : XH) (v1 : Int32) (v2 : Int32) (v3 : Int32) (v4 : Int32) (hl : lv_has ls 5 [(0, .ref (oX O + 64)), (1, .int v1), (2, .int v2), (3, .int v3), (4, .int v4)]) (hR : x_R O K h H) (hS : va_S (oA O) s.heap H locs) (hf : f_X12_risk_35 (oX O) n h v1 v2 v3 v4 = some (r, h')), W p l e (x_rm 2 50) s m args below meth c H locs 0 0 (MQ below (x_Qc O K h' (some (.long r))) args s 0 0 (oA O)) (F0 m 35 ls []) := by
  have hx := C.1
  have hb := C.2.1
  intro n
  induction n with
  | zero =>
    intro ls H locs h v1 v2 v3 v4 hl hR hS hf
    rw [f_X12_risk_35] at hf
    cases hf
  | succ n ih =>
    intro ls H locs h v1 v2 v3 v4 hl hR hS hf
    rw [f_X12_risk_35] at hf
    refine lv_iload hx hb dX12_risk_35 (lv_at hl 4 rfl) ?_
    refine lv_bipush (v := 6) hx hb dX12_risk_37 rfl ?_
    refine lv_icmp_gt (tgt := 68) hx hb dX12_risk_39 rfl (fun hc => ?_) (fun hc => ?_)
    · have hf := x_ip hc hf
      refine lv_iload_n hx hb dX12_risk_68 rfl (lv_at hl 2 rfl) ?_
      refine lv_if_eq (tgt := 81) hx hb dX12_risk_69 rfl (fun hc => ?_) (fun hc => ?_)
      · have hf := x_ip hc hf
        refine lv_iload_n hx hb dX12_risk_81 rfl (lv_at hl 3 rfl) ?_
        refine lv_i2l hx hb dX12_risk_82 rfl ?_
        cases hf
        exact x_lret C hR hS dX12_risk_83
      · have hf := x_in hc hf
        refine lv_aload_n hx hb dX12_risk_72 rfl (lv_at hl 0 rfl) ?_
        refine lv_iload_n hx hb dX12_risk_73 rfl (lv_at hl 3 rfl) ?_
        refine lv_iload_n hx hb dX12_risk_74 rfl (lv_at hl 1 rfl) ?_
        obtain ⟨v_4, ev_4, hf⟩ := x_bd hf
        refine x_cVl2 C hR hS (S_X12_oddsOf  ev_4) (x_k hR 64 rfl) (by decide) rfl mf_X12_oddsOf tw_2069 (Nat.le_of_ble_eq_true rfl) (Nat.le_of_ble_eq_true rfl) hl.1 (Nat.le_of_ble_eq_true rfl) dX12_risk_75 ⟨Nat.le_refl _, Nat.le_refl _⟩ (fun H locs hR hS => ?_)
        refine lv_goto (tgt := 83) hx hb dX12_risk_78 rfl ?_
        cases hf
        exact x_lret C hR hS dX12_risk_83
    · have hf := x_in hc hf
      refine lv_aload_n hx hb dX12_risk_42 rfl (lv_at hl 0 rfl) ?_
      refine lv_iload hx hb dX12_risk_43 (lv_at hl 4 rfl) ?_
      refine lv_iload_n hx hb dX12_risk_45 rfl (lv_at hl 1 rfl) ?_
      obtain ⟨v_5, ev_5, hf⟩ := x_bd hf
      refine x_cVl2 C hR hS (S_X12_oddsOf  ev_5) (x_k hR 64 rfl) (by decide) rfl mf_X12_oddsOf tw_2069 (Nat.le_of_ble_eq_true rfl) (Nat.le_of_ble_eq_true rfl) hl.1 (Nat.le_of_ble_eq_true rfl) dX12_risk_46 ⟨Nat.le_refl _, Nat.le_refl _⟩ (fun H locs hR hS => ?_)
      refine lv_aload_n hx hb dX12_risk_49 rfl (lv_at hl 0 rfl) ?_
      refine lv_iload_n hx hb dX12_risk_50 rfl (lv_at hl 3 rfl) ?_
      refine lv_iload_n hx hb dX12_risk_51 rfl (lv_at hl 1 rfl) ?_
      obtain ⟨v_6, ev_6, hf⟩ := x_bd hf
      refine x_cVl2 C hR hS (S_X12_oddsOf  ev_6) (x_k hR 64 rfl) (by decide) rfl mf_X12_oddsOf tw_2069 (Nat.le_of_ble_eq_true rfl) (Nat.le_of_ble_eq_true rfl) hl.1 (Nat.le_of_ble_eq_true rfl) dX12_risk_52 ⟨Nat.le_refl _, Nat.le_refl _⟩ (fun H locs hR hS => ?_)
      refine W.lcmp hx hb dX12_risk_55 ?_
      have kM7 : ∀ (ls : Array Slot) (H : Heap) (locs : List Loc), lv_has ls 5 [(0, .ref (oX O + 64)), (1, .int v1), (2, .int v2), (3, .int (if (lg_cmp v_5 v_6) ≤ 0 then v3 else v4)), (4, .int v4)] → x_R O K h H → va_S (oA O) s.heap H locs → W p l e (x_rm 2 50) s m args below meth c H locs 0 0 (MQ below (x_Qc O K h' (some (.long r))) args s 0 0 (oA O)) (F0 m 62 ls []) := by
        intro ls H locs hl hR hS
        refine lv_iinc (k := 4) (v := _ + 1) (lv' := [(4, _), (0, _), (1, _), (2, _), (3, _)]) hx hb dX12_risk_62 hl rfl (x_inc 1 1 rfl _) (Nat.le_of_ble_eq_true rfl) rfl (fun ls hl => ?_)
        refine lv_goto (tgt := 35) hx hb dX12_risk_65 rfl ?_
        exact ih ls _ _ h _ _ _ _  (lv_sub hl [1, 2, 3, 4, 0] rfl) hR hS hf
      refine lv_if_le (tgt := 62) hx hb dX12_risk_56 rfl (fun hc => ?_) (fun hc => ?_)
      · try simp only [if_pos hc] at kM7
        exact kM7 ls _ _ (lv_sub hl [0, 1, 2, 3, 4] rfl) hR hS
      · try simp only [if_neg hc] at kM7
        refine lv_iload hx hb dX12_risk_59 (lv_at hl 4 rfl) ?_
        refine lv_istore_n (lv' := [(3, _), (0, _), (1, _), (2, _), (4, _)]) hx hb dX12_risk_61 rfl hl (Nat.le_of_ble_eq_true rfl) rfl (fun ls hl => ?_)
        exact kM7 ls _ _ (lv_sub hl [1, 2, 3, 0, 4] rfl) hR hS
set_option maxRecDepth 20000 in
theorem S_X12_risk {l : Launch} {O : XO} {K : XK} {h : XH} {v1 : Int32} {v2 : Int32}  {r : Int64} {h' : XH}  (hf : f_X12_risk (oX O) h v1 v2 = some (r, h')) : x_M l O K yX12_risk cX12_risk 5 (some .long) 2 50 h [.ref (oX O + 64), .int v1, .int v2] (some (.long r)) h' := by
  refine x_enter (by decide) (Nat.le_of_ble_eq_true rfl) (fun p e s m args below meth c C hR ls hl => ?_)
  have hS : va_S (oA O) s.heap s.heap [] := va_S.rf
  have hx := C.1
  have hb := C.2.1
  have hl : lv_has ls 5 [(0, .ref (oX O + 64)), (1, .int v1), (2, .int v2)] := hl
  rw [f_X12_risk] at hf
  refine lv_aload_n hx hb dX12_risk_0 rfl (lv_at hl 0 rfl) ?_
  refine lv_iconst (v := 0) hx hb dX12_risk_1 rfl ?_
  obtain ⟨h1, eh1, hf⟩ := x_lt hf
  refine pf_12_0 C hR hS (x_k hR 64 rfl) tw_1543 dX12_risk_2 (fun H locs hR hS => ?_)
  rw [← eh1] at hR
  refine lv_aload_n hx hb dX12_risk_5 rfl (lv_at hl 0 rfl) ?_
  refine lv_iload_n hx hb dX12_risk_6 rfl (lv_at hl 1 rfl) ?_
  refine lv_iconst (v := 0) hx hb dX12_risk_7 rfl ?_
  refine lv_bipush (v := 6) hx hb dX12_risk_8 rfl ?_
  refine x_cSi3 C hR hS (S_X12_in  rfl) mf_X12_in tw_1756 (Nat.le_of_ble_eq_true rfl) (Nat.le_of_ble_eq_true rfl) hl.1 (Nat.le_of_ble_eq_true rfl) dX12_risk_10 ⟨Nat.le_refl _, Nat.le_refl _⟩ (fun H locs hR hS => ?_)
  have kM2 : ∀ (ls : Array Slot) (H : Heap) (locs : List Loc), lv_has ls 5 [(0, .ref (oX O + 64)), (1, .int v1), (2, .int v2)] → x_R O K h1 H → va_S (oA O) s.heap H locs → W p l e (x_rm 2 50) s m args below meth c H locs 0 0 (MQ below (x_Qc O K h' (some (.long r))) args s 0 0 (oA O)) (F0 m 21 ls [.int (if (f_X12_in h1 v1 0 6) = 0 then 1 else 0), .ref (oX O + 64)]) := by
    intro ls H locs hl hR hS
    refine lv_iconst (v := 1) hx hb dX12_risk_21 rfl ?_
    obtain ⟨q3, eq3, hf⟩ := x_bd hf
    refine x_cVi2 C hR hS (S_X12_throwsIf  eq3) (x_k hR 64 rfl) (by decide) rfl mf_X12_throwsIf tw_1741 (Nat.le_of_ble_eq_true rfl) (Nat.le_of_ble_eq_true rfl) hl.1 (Nat.le_of_ble_eq_true rfl) dX12_risk_22 ⟨Nat.le_refl _, Nat.le_refl _⟩ (fun H locs hR hS => ?_)
    refine lv_if_eq (tgt := 30) hx hb dX12_risk_25 rfl (fun hc => ?_) (fun hc => ?_)
    · have hf := x_ip hc hf
      refine lv_iconst (v := 1) hx hb dX12_risk_30 rfl ?_
      refine lv_istore_n (lv' := [(3, _), (0, _), (1, _), (2, _)]) hx hb dX12_risk_31 rfl hl (Nat.le_of_ble_eq_true rfl) rfl (fun ls hl => ?_)
      refine lv_iconst (v := 2) hx hb dX12_risk_32 rfl ?_
      refine lv_istore (lv' := [(4, _), (3, _), (0, _), (1, _), (2, _)]) hx hb dX12_risk_33 hl (Nat.le_of_ble_eq_true rfl) rfl (fun ls hl => ?_)
      exact B_X12_risk_35  C  x_FU ls _ _ q3.2 _ _ _ _  (lv_sub hl [2, 3, 4, 1, 0] rfl) hR hS hf
    · have hf := x_in hc hf
      refine lv_lconst (v := 0) hx hb dX12_risk_28 rfl ?_
      cases hf
      exact x_lret C hR hS dX12_risk_29
  refine lv_if_ne (tgt := 20) hx hb dX12_risk_13 rfl (fun hc => ?_) (fun hc => ?_)
  · try simp only [if_neg hc] at kM2
    refine lv_iconst (v := 0) hx hb dX12_risk_20 rfl ?_
    exact kM2 ls _ _ (lv_sub hl [0, 1, 2] rfl) hR hS
  · try simp only [if_pos hc] at kM2
    refine lv_iconst (v := 1) hx hb dX12_risk_16 rfl ?_
    refine lv_goto (tgt := 21) hx hb dX12_risk_17 rfl ?_
    exact kM2 ls _ _ (lv_sub hl [0, 1, 2] rfl) hR hS
def f_X12_betters (h : XH) (v0 : Int32) (v1 : Int32) (v2 : Int32) : Option Int32 := Option.bind (f_J9_floorDiv_7cf53 h (v2 * (v1 - v0)) 100) (fun v_1 => some (v0 + v_1))
set_option maxRecDepth 20000 in
theorem S_X12_betters {l : Launch} {O : XO} {K : XK} {h : XH} {v0 : Int32} {v1 : Int32} {v2 : Int32}  {r : Int32}  (hf : f_X12_betters h v0 v1 v2 = some r) : x_M l O K yX12_betters cX12_betters 3 (some .int) 1 22 h [.int v0, .int v1, .int v2] (some (.int r)) h := by
  refine x_enter (by decide) (Nat.le_of_ble_eq_true rfl) (fun p e s m args below meth c C hR ls hl => ?_)
  have hS : va_S (oA O) s.heap s.heap [] := va_S.rf
  have hx := C.1
  have hb := C.2.1
  have hl : lv_has ls 3 [(0, .int v0), (1, .int v1), (2, .int v2)] := hl
  rw [f_X12_betters] at hf
  refine lv_iload_n hx hb dX12_betters_0 rfl (lv_at hl 0 rfl) ?_
  refine lv_iload_n hx hb dX12_betters_1 rfl (lv_at hl 2 rfl) ?_
  refine lv_iload_n hx hb dX12_betters_2 rfl (lv_at hl 1 rfl) ?_
  refine lv_iload_n hx hb dX12_betters_3 rfl (lv_at hl 0 rfl) ?_
  refine lv_isub hx hb dX12_betters_4 ?_
  refine lv_imul hx hb dX12_betters_5 ?_
  refine lv_bipush (v := 100) hx hb dX12_betters_6 rfl ?_
  obtain ⟨v_1, ev_1, hf⟩ := x_bd hf
  refine x_cSi2 C hR hS (S_J9_floorDiv_7cf53  ev_1) mf_J9_floorDiv_7cf53 tw_2085 (Nat.le_of_ble_eq_true rfl) (Nat.le_of_ble_eq_true rfl) hl.1 (Nat.le_of_ble_eq_true rfl) dX12_betters_8 ⟨Nat.le_refl _, Nat.le_refl _⟩ (fun H locs hR hS => ?_)
  refine lv_iadd hx hb dX12_betters_11 ?_
  cases hf
  exact x_iret C hR hS dX12_betters_12
def f_X12_rates_51 (x : Nat) (h : XH) : Option (Int32 × XH) := some (0, h)
def f_X12_rates_244 (k78 : XH → Int32 → Int32 → Int32 → Int32 → Int32 → Int32 → Int32 → Int32 → Int32 → Option (Int32 × XH)) (x : Nat) (h : XH) (v1 : Int32) (v2 : Int32) (v3 : Int32) (v4 : Int32) (v5 : Int32) (v6 : Int32) (v7 : Int32) (v8 : Int32) (v9 : Int32) : Option (Int32 × XH) := k78 h v1 v2 v3 v4 v5 v6 v7 v8 (v9 + 1)
def f_X12_rates_241 (k78 : XH → Int32 → Int32 → Int32 → Int32 → Int32 → Int32 → Int32 → Int32 → Int32 → Option (Int32 × XH)) (x : Nat) (h : XH) (v1 : Int32) (v2 : Int32) (v3 : Int32) (v4 : Int32) (v5 : Int32) (v6 : Int32) (v7 : Int32) (v8 : Int32) (v9 : Int32) : Option (Int32 × XH) := f_X12_rates_244 k78 x h v1 v2 v3 (v4 + 1) v5 v6 v7 v8 v9
def f_X12_rates_145 (k78 : XH → Int32 → Int32 → Int32 → Int32 → Int32 → Int32 → Int32 → Int32 → Int32 → Option (Int32 × XH)) (k91 : XH → Int32 → Int32 → Int32 → Int32 → Int32 → Int32 → Int32 → Int32 → Int32 → Int32 → Int32 → Option (Int32 × XH)) (x : Nat) (h : XH) (v1 : Int32) (v2 : Int32) (v3 : Int32) (v4 : Int32) (v5 : Int32) (v6 : Int32) (v7 : Int32) (v8 : Int32) (v9 : Int32) (v11 : Int32) (s0 : Int32) : Option (Int32 × XH) := k91 h v1 v2 v3 v4 v5 v6 v7 v8 v9 s0 (v11 + 1)
def f_X12_rates_144 (k78 : XH → Int32 → Int32 → Int32 → Int32 → Int32 → Int32 → Int32 → Int32 → Int32 → Option (Int32 × XH)) (k91 : XH → Int32 → Int32 → Int32 → Int32 → Int32 → Int32 → Int32 → Int32 → Int32 → Int32 → Int32 → Option (Int32 × XH)) (x : Nat) (h : XH) (v1 : Int32) (v2 : Int32) (v3 : Int32) (v4 : Int32) (v5 : Int32) (v6 : Int32) (v7 : Int32) (v8 : Int32) (v9 : Int32) (v11 : Int32) : Option (Int32 × XH) := f_X12_rates_145 k78 k91 x h v1 v2 v3 v4 v5 v6 v7 v8 v9 v11 0
def f_X12_rates_91 (k78 : XH → Int32 → Int32 → Int32 → Int32 → Int32 → Int32 → Int32 → Int32 → Int32 → Option (Int32 × XH)) (x : Nat) : Nat → XH → Int32 → Int32 → Int32 → Int32 → Int32 → Int32 → Int32 → Int32 → Int32 → Int32 → Int32 → Option (Int32 × XH)
  | 0, _, _, _, _, _, _, _, _, _, _, _, _ => none
  | n + 1, h, v1, v2, v3, v4, v5, v6, v7, v8, v9, v10, v11 => if v3 ≤ v11 then if v10 = 0 then f_X12_rates_244 k78 x h v1 v2 v3 v4 v5 v6 v7 v8 v9 else x_let ((if v4 = 0 then v9 else v5) : Int32) (fun t10 => if v3 ≤ 0 then f_X12_rates_241 k78 x h v1 v2 v3 v4 t10 v9 v7 v8 v9 else if x_b ((944 + v3) - 1) 6927 = true then Option.bind (f_X12_betters h (h.1 (x + 65) ((944 + v3) - 1).toNatClampNeg) v1 v9) (fun v_12 => x_let ((if v4 = 0 then v_12 else (f_J9_min_7cf53 h v7 v_12)) : Int32) (fun t14 => x_let ((if v4 = 0 then v_12 else (f_J9_max_7cf53 h v8 v_12)) : Int32) (fun t16 => f_X12_rates_241 k78 x h v1 v2 v3 v4 t10 v9 t14 t16 v9))) else none) else if v10 = 0 then f_X12_rates_144 k78 (f_X12_rates_91 k78 x n) x h v1 v2 v3 v4 v5 v6 v7 v8 v9 v11 else if x_b ((944 + v11) - 1) 6927 = true then Option.bind (f_X12_betters h (h.1 (x + 65) ((944 + v11) - 1).toNatClampNeg) v1 v9) (fun v_18 => if x_b (944 + v11) 6927 = true then x_let ((if 1 < (f_J9_abs_0f7a4 h (v_18 - (h.1 (x + 65) (944 + v11).toNatClampNeg))) then 0 else 1) : Int32) (fun t21 => f_X12_rates_91 k78 x n h v1 v2 v3 v4 v5 v6 v7 v8 v9 t21 (v11 + 1)) else none) else none
def f_X12_rates_78 (x : Nat) : Nat → XH → Int32 → Int32 → Int32 → Int32 → Int32 → Int32 → Int32 → Int32 → Int32 → Option (Int32 × XH)
  | 0, _, _, _, _, _, _, _, _, _, _ => none
  | n + 1, h, v1, v2, v3, v4, v5, v6, v7, v8, v9 => if 100 < v9 then some ((if v2 = 0 then v4 else (if v2 = 1 then v5 else (if v2 = 2 then v6 else (if v2 = 3 then v7 else v8)))), h) else f_X12_rates_91 (f_X12_rates_78 x n) x x_FU h v1 v2 v3 v4 v5 v6 v7 v8 v9 1 1
def f_X12_rates (x : Nat) (h : XH) (v1 : Int32) (v2 : Int32) : Option (Int32 × XH) := x_let (x_i h (x + 64) 0 0) (fun h1 => Option.bind (f_X12_throwsIf x h1 (if (f_X12_in h1 v1 0 9999) = 0 then 1 else 0) 1) (fun q3 => if q3.1 = 0 then Option.bind (f_X12_throwsIf x q3.2 (if (f_X12_in q3.2 v2 0 4) = 0 then 1 else 0) 2) (fun q5 => if q5.1 = 0 then if x_b 5 6927 = true then x_let ((q5.2.1 (x + 65) (5 : Int32).toNatClampNeg) : Int32) (fun t7 => f_X12_rates_78 x x_FU q5.2 v1 v2 t7 0 (-1) (-1) (-1) (-1) 0) else none else f_X12_rates_51 x q5.2) else f_X12_rates_51 x q3.2))
set_option maxRecDepth 20000 in
theorem B_X12_rates_51 {p : Program} {l : Launch} {e : Env} {s : State} {m : MethodId} {args : Array Value} {below : List Frame} {meth : Method} {c : Code} {O : XO} {K : XK} {r : Int32} {h' : XH}   (C : x_C p s m args meth c O cX12_rates 12 RX12 (some .int))   (ls : Array Slot) (H : Heap) (locs : List Loc) (h : XH) (hl : lv_has ls 12 []) (hR : x_R O K h H) (hS : va_S (oA O) s.heap H locs) (hf : f_X12_rates_51 (oX O) h = some (r, h')) : W p l e (x_rm 2 44) s m args below meth c H locs 0 0 (MQ below (x_Qc O K h' (some (.int r))) args s 0 0 (oA O)) (F0 m 51 ls []) := by
  have hx := C.1
  have hb := C.2.1
  rw [f_X12_rates_51] at hf
  refine lv_iconst (v := 0) hx hb dX12_rates_51 rfl ?_
  cases hf
  exact x_iret C hR hS dX12_rates_52
set_option maxRecDepth 20000 in
theorem B_X12_rates_244 {p : Program} {l : Launch} {e : Env} {s : State} {m : MethodId} {args : Array Value} {below : List Frame} {meth : Method} {c : Code} {O : XO} {K : XK} {r : Int32} {h' : XH}  {k78 : XH → Int32 → Int32 → Int32 → Int32 → Int32 → Int32 → Int32 → Int32 → Int32 → Option (Int32 × XH)} (C : x_C p s m args meth c O cX12_rates 12 RX12 (some .int)) (hk78 : ∀ (ls : Array Slot) (H : Heap) (locs : List Loc) (h : XH) (v1 : Int32) (v2 : Int32) (v3 : Int32) (v4 : Int32) (v5 : Int32) (v6 : Int32) (v7 : Int32) (v8 : Int32) (v9 : Int32), lv_has ls 12 [(0, .ref (oX O + 64)), (1, .int v1), (2, .int v2), (3, .int v3), (4, .int v4), (5, .int v5), (6, .int v6), (7, .int v7), (8, .int v8), (9, .int v9)] → x_R O K h H → va_S (oA O) s.heap H locs → k78 h v1 v2 v3 v4 v5 v6 v7 v8 v9 = some (r, h') → W p l e (x_rm 2 44) s m args below meth c H locs 0 0 (MQ below (x_Qc O K h' (some (.int r))) args s 0 0 (oA O)) (F0 m 78 ls []))  (ls : Array Slot) (H : Heap) (locs : List Loc) (h : XH) (v1 : Int32) (v2 : Int32) (v3 : Int32) (v4 : Int32) (v5 : Int32) (v6 : Int32) (v7 : Int32) (v8 : Int32) (v9 : Int32) (hl : lv_has ls 12 [(0, .ref (oX O + 64)), (1, .int v1), (2, .int v2), (3, .int v3), (4, .int v4), (5, .int v5), (6, .int v6), (7, .int v7), (8, .int v8), (9, .int v9)]) (hR : x_R O K h H) (hS : va_S (oA O) s.heap H locs) (hf : f_X12_rates_244 k78 (oX O) h v1 v2 v3 v4 v5 v6 v7 v8 v9 = some (r, h')) : W p l e (x_rm 2 44) s m args below meth c H locs 0 0 (MQ below (x_Qc O K h' (some (.int r))) args s 0 0 (oA O)) (F0 m 244 ls []) := by
  have hx := C.1
  have hb := C.2.1
  rw [f_X12_rates_244] at hf
  refine lv_iinc (k := 9) (v := _ + 1) (lv' := [(9, _), (0, _), (1, _), (2, _), (3, _), (4, _), (5, _), (6, _), (7, _), (8, _)]) hx hb dX12_rates_244 hl rfl (x_inc 1 1 rfl _) (Nat.le_of_ble_eq_true rfl) rfl (fun ls hl => ?_)
  refine lv_goto (tgt := 78) hx hb dX12_rates_247 rfl ?_
  exact hk78 ls _ _ h _ _ _ _ _ _ _ _ _  (lv_sub hl [1, 2, 3, 4, 5, 6, 7, 8, 9, 0] rfl) hR hS hf
set_option maxRecDepth 20000 in
theorem B_X12_rates_241 {p : Program} {l : Launch} {e : Env} {s : State} {m : MethodId} {args : Array Value} {below : List Frame} {meth : Method} {c : Code} {O : XO} {K : XK} {r : Int32} {h' : XH}  {k78 : XH → Int32 → Int32 → Int32 → Int32 → Int32 → Int32 → Int32 → Int32 → Int32 → Option (Int32 × XH)} (C : x_C p s m args meth c O cX12_rates 12 RX12 (some .int)) (hk78 : ∀ (ls : Array Slot) (H : Heap) (locs : List Loc) (h : XH) (v1 : Int32) (v2 : Int32) (v3 : Int32) (v4 : Int32) (v5 : Int32) (v6 : Int32) (v7 : Int32) (v8 : Int32) (v9 : Int32), lv_has ls 12 [(0, .ref (oX O + 64)), (1, .int v1), (2, .int v2), (3, .int v3), (4, .int v4), (5, .int v5), (6, .int v6), (7, .int v7), (8, .int v8), (9, .int v9)] → x_R O K h H → va_S (oA O) s.heap H locs → k78 h v1 v2 v3 v4 v5 v6 v7 v8 v9 = some (r, h') → W p l e (x_rm 2 44) s m args below meth c H locs 0 0 (MQ below (x_Qc O K h' (some (.int r))) args s 0 0 (oA O)) (F0 m 78 ls []))  (ls : Array Slot) (H : Heap) (locs : List Loc) (h : XH) (v1 : Int32) (v2 : Int32) (v3 : Int32) (v4 : Int32) (v5 : Int32) (v6 : Int32) (v7 : Int32) (v8 : Int32) (v9 : Int32) (hl : lv_has ls 12 [(0, .ref (oX O + 64)), (1, .int v1), (2, .int v2), (3, .int v3), (4, .int v4), (5, .int v5), (6, .int v6), (7, .int v7), (8, .int v8), (9, .int v9)]) (hR : x_R O K h H) (hS : va_S (oA O) s.heap H locs) (hf : f_X12_rates_241 k78 (oX O) h v1 v2 v3 v4 v5 v6 v7 v8 v9 = some (r, h')) : W p l e (x_rm 2 44) s m args below meth c H locs 0 0 (MQ below (x_Qc O K h' (some (.int r))) args s 0 0 (oA O)) (F0 m 241 ls []) := by
  have hx := C.1
  have hb := C.2.1
  rw [f_X12_rates_241] at hf
  refine lv_iinc (k := 4) (v := _ + 1) (lv' := [(4, _), (0, _), (1, _), (2, _), (3, _), (5, _), (6, _), (7, _), (8, _), (9, _)]) hx hb dX12_rates_241 hl rfl (x_inc 1 1 rfl _) (Nat.le_of_ble_eq_true rfl) rfl (fun ls hl => ?_)
  exact B_X12_rates_244  C hk78  ls _ _ h _ _ _ _ _ _ _ _ _  (lv_sub hl [1, 2, 3, 4, 0, 5, 6, 7, 8, 9] rfl) hR hS hf
set_option maxRecDepth 20000 in
theorem B_X12_rates_145 {p : Program} {l : Launch} {e : Env} {s : State} {m : MethodId} {args : Array Value} {below : List Frame} {meth : Method} {c : Code} {O : XO} {K : XK} {r : Int32} {h' : XH}  {k78 : XH → Int32 → Int32 → Int32 → Int32 → Int32 → Int32 → Int32 → Int32 → Int32 → Option (Int32 × XH)} {k91 : XH → Int32 → Int32 → Int32 → Int32 → Int32 → Int32 → Int32 → Int32 → Int32 → Int32 → Int32 → Option (Int32 × XH)} (C : x_C p s m args meth c O cX12_rates 12 RX12 (some .int)) (hk78 : ∀ (ls : Array Slot) (H : Heap) (locs : List Loc) (h : XH) (v1 : Int32) (v2 : Int32) (v3 : Int32) (v4 : Int32) (v5 : Int32) (v6 : Int32) (v7 : Int32) (v8 : Int32) (v9 : Int32), lv_has ls 12 [(0, .ref (oX O + 64)), (1, .int v1), (2, .int v2), (3, .int v3), (4, .int v4), (5, .int v5), (6, .int v6), (7, .int v7), (8, .int v8), (9, .int v9)] → x_R O K h H → va_S (oA O) s.heap H locs → k78 h v1 v2 v3 v4 v5 v6 v7 v8 v9 = some (r, h') → W p l e (x_rm 2 44) s m args below meth c H locs 0 0 (MQ below (x_Qc O K h' (some (.int r))) args s 0 0 (oA O)) (F0 m 78 ls [])) (hk91 : ∀ (ls : Array Slot) (H : Heap) (locs : List Loc) (h : XH) (v1 : Int32) (v2 : Int32) (v3 : Int32) (v4 : Int32) (v5 : Int32) (v6 : Int32) (v7 : Int32) (v8 : Int32) (v9 : Int32) (v10 : Int32) (v11 : Int32), lv_has ls 12 [(0, .ref (oX O + 64)), (1, .int v1), (2, .int v2), (3, .int v3), (4, .int v4), (5, .int v5), (6, .int v6), (7, .int v7), (8, .int v8), (9, .int v9), (10, .int v10), (11, .int v11)] → x_R O K h H → va_S (oA O) s.heap H locs → k91 h v1 v2 v3 v4 v5 v6 v7 v8 v9 v10 v11 = some (r, h') → W p l e (x_rm 2 44) s m args below meth c H locs 0 0 (MQ below (x_Qc O K h' (some (.int r))) args s 0 0 (oA O)) (F0 m 91 ls []))  (ls : Array Slot) (H : Heap) (locs : List Loc) (h : XH) (v1 : Int32) (v2 : Int32) (v3 : Int32) (v4 : Int32) (v5 : Int32) (v6 : Int32) (v7 : Int32) (v8 : Int32) (v9 : Int32) (v11 : Int32) (s0 : Int32) (hl : lv_has ls 12 [(0, .ref (oX O + 64)), (1, .int v1), (2, .int v2), (3, .int v3), (4, .int v4), (5, .int v5), (6, .int v6), (7, .int v7), (8, .int v8), (9, .int v9), (11, .int v11)]) (hR : x_R O K h H) (hS : va_S (oA O) s.heap H locs) (hf : f_X12_rates_145 k78 k91 (oX O) h v1 v2 v3 v4 v5 v6 v7 v8 v9 v11 s0 = some (r, h')) : W p l e (x_rm 2 44) s m args below meth c H locs 0 0 (MQ below (x_Qc O K h' (some (.int r))) args s 0 0 (oA O)) (F0 m 145 ls [.int s0]) := by
  have hx := C.1
  have hb := C.2.1
  rw [f_X12_rates_145] at hf
  refine lv_istore (lv' := [(10, _), (0, _), (1, _), (2, _), (3, _), (4, _), (5, _), (6, _), (7, _), (8, _), (9, _), (11, _)]) hx hb dX12_rates_145 hl (Nat.le_of_ble_eq_true rfl) rfl (fun ls hl => ?_)
  refine lv_iinc (k := 11) (v := _ + 1) (lv' := [(11, _), (10, _), (0, _), (1, _), (2, _), (3, _), (4, _), (5, _), (6, _), (7, _), (8, _), (9, _)]) hx hb dX12_rates_147 hl rfl (x_inc 1 1 rfl _) (Nat.le_of_ble_eq_true rfl) rfl (fun ls hl => ?_)
  refine lv_goto (tgt := 91) hx hb dX12_rates_150 rfl ?_
  exact hk91 ls _ _ h _ _ _ _ _ _ _ _ _ _ _  (lv_sub hl [2, 3, 4, 5, 6, 7, 8, 9, 10, 11, 1, 0] rfl) hR hS hf
set_option maxRecDepth 20000 in
theorem B_X12_rates_144 {p : Program} {l : Launch} {e : Env} {s : State} {m : MethodId} {args : Array Value} {below : List Frame} {meth : Method} {c : Code} {O : XO} {K : XK} {r : Int32} {h' : XH}  {k78 : XH → Int32 → Int32 → Int32 → Int32 → Int32 → Int32 → Int32 → Int32 → Int32 → Option (Int32 × XH)} {k91 : XH → Int32 → Int32 → Int32 → Int32 → Int32 → Int32 → Int32 → Int32 → Int32 → Int32 → Int32 → Option (Int32 × XH)} (C : x_C p s m args meth c O cX12_rates 12 RX12 (some .int)) (hk78 : ∀ (ls : Array Slot) (H : Heap) (locs : List Loc) (h : XH) (v1 : Int32) (v2 : Int32) (v3 : Int32) (v4 : Int32) (v5 : Int32) (v6 : Int32) (v7 : Int32) (v8 : Int32) (v9 : Int32), lv_has ls 12 [(0, .ref (oX O + 64)), (1, .int v1), (2, .int v2), (3, .int v3), (4, .int v4), (5, .int v5), (6, .int v6), (7, .int v7), (8, .int v8), (9, .int v9)] → x_R O K h H → va_S (oA O) s.heap H locs → k78 h v1 v2 v3 v4 v5 v6 v7 v8 v9 = some (r, h') → W p l e (x_rm 2 44) s m args below meth c H locs 0 0 (MQ below (x_Qc O K h' (some (.int r))) args s 0 0 (oA O)) (F0 m 78 ls [])) (hk91 : ∀ (ls : Array Slot) (H : Heap) (locs : List Loc) (h : XH) (v1 : Int32) (v2 : Int32) (v3 : Int32) (v4 : Int32) (v5 : Int32) (v6 : Int32) (v7 : Int32) (v8 : Int32) (v9 : Int32) (v10 : Int32) (v11 : Int32), lv_has ls 12 [(0, .ref (oX O + 64)), (1, .int v1), (2, .int v2), (3, .int v3), (4, .int v4), (5, .int v5), (6, .int v6), (7, .int v7), (8, .int v8), (9, .int v9), (10, .int v10), (11, .int v11)] → x_R O K h H → va_S (oA O) s.heap H locs → k91 h v1 v2 v3 v4 v5 v6 v7 v8 v9 v10 v11 = some (r, h') → W p l e (x_rm 2 44) s m args below meth c H locs 0 0 (MQ below (x_Qc O K h' (some (.int r))) args s 0 0 (oA O)) (F0 m 91 ls []))  (ls : Array Slot) (H : Heap) (locs : List Loc) (h : XH) (v1 : Int32) (v2 : Int32) (v3 : Int32) (v4 : Int32) (v5 : Int32) (v6 : Int32) (v7 : Int32) (v8 : Int32) (v9 : Int32) (v11 : Int32) (hl : lv_has ls 12 [(0, .ref (oX O + 64)), (1, .int v1), (2, .int v2), (3, .int v3), (4, .int v4), (5, .int v5), (6, .int v6), (7, .int v7), (8, .int v8), (9, .int v9), (11, .int v11)]) (hR : x_R O K h H) (hS : va_S (oA O) s.heap H locs) (hf : f_X12_rates_144 k78 k91 (oX O) h v1 v2 v3 v4 v5 v6 v7 v8 v9 v11 = some (r, h')) : W p l e (x_rm 2 44) s m args below meth c H locs 0 0 (MQ below (x_Qc O K h' (some (.int r))) args s 0 0 (oA O)) (F0 m 144 ls []) := by
  have hx := C.1
  have hb := C.2.1
  rw [f_X12_rates_144] at hf
  refine lv_iconst (v := 0) hx hb dX12_rates_144 rfl ?_
  exact B_X12_rates_145  C hk78 hk91  ls _ _ h _ _ _ _ _ _ _ _ _ _ _  (lv_sub hl [0, 1, 2, 3, 4, 5, 6, 7, 8, 9, 10] rfl) hR hS hf
set_option maxRecDepth 20000 in
theorem B_X12_rates_91 {p : Program} {l : Launch} {e : Env} {s : State} {m : MethodId} {args : Array Value} {below : List Frame} {meth : Method} {c : Code} {O : XO} {K : XK} {r : Int32} {h' : XH}  {k78 : XH → Int32 → Int32 → Int32 → Int32 → Int32 → Int32 → Int32 → Int32 → Int32 → Option (Int32 × XH)} (C : x_C p s m args meth c O cX12_rates 12 RX12 (some .int)) (hk78 : ∀ (ls : Array Slot) (H : Heap) (locs : List Loc) (h : XH) (v1 : Int32) (v2 : Int32) (v3 : Int32) (v4 : Int32) (v5 : Int32) (v6 : Int32) (v7 : Int32) (v8 : Int32) (v9 : Int32), lv_has ls 12 [(0, .ref (oX O + 64)), (1, .int v1), (2, .int v2), (3, .int v3), (4, .int v4), (5, .int v5), (6, .int v6), (7, .int v7), (8, .int v8), (9, .int v9)] → x_R O K h H → va_S (oA O) s.heap H locs → k78 h v1 v2 v3 v4 v5 v6 v7 v8 v9 = some (r, h') → W p l e (x_rm 2 44) s m args below meth c H locs 0 0 (MQ below (x_Qc O K h' (some (.int r))) args s 0 0 (oA O)) (F0 m 78 ls []))  : ∀ (n : Nat) (ls : Array Slot) (H : Heap) (locs : List Loc) (h : XH) (v1 : Int32) (v2 : Int32) (v3 : Int32) (v4 : Int32) (v5 : Int32) (v6 : Int32) (v7 : Int32) (v8 : Int32) (v9 : Int32) (v10 : Int32) (v11 : Int32) (hl : lv_has ls 12 [(0, .ref (oX O + 64)), (1, .int v1), (2, .int v2), (3, .int v3), (4, .int v4), (5, .int v5), (6, .int v6), (7, .int v7), (8, .int v8), (9, .int v9), (10, .int v10), (11, .int v11)]) (hR : x_R O K h H) (hS : va_S (oA O) s.heap H locs) (hf : f_X12_rates_91 k78 (oX O) n h v1 v2 v3 v4 v5 v6 v7 v8 v9 v10 v11 = some (r, h')), W p l e (x_rm 2 44) s m args below meth c H locs 0 0 (MQ below (x_Qc O K h' (some (.int r))) args s 0 0 (oA O)) (F0 m 91 ls []) := by
  have hx := C.1
  have hb := C.2.1
  intro n
  induction n with
  | zero =>
    intro ls H locs h v1 v2 v3 v4 v5 v6 v7 v8 v9 v10 v11 hl hR hS hf
    rw [f_X12_rates_91] at hf
    cases hf
  | succ n ih =>
    intro ls H locs h v1 v2 v3 v4 v5 v6 v7 v8 v9 v10 v11 hl hR hS hf
    rw [f_X12_rates_91] at hf
    refine lv_iload hx hb dX12_rates_91 (lv_at hl 11 rfl) ?_
    refine lv_iload_n hx hb dX12_rates_93 rfl (lv_at hl 3 rfl) ?_
    refine lv_icmp_ge (tgt := 153) hx hb dX12_rates_94 rfl (fun hc => ?_) (fun hc => ?_)
    · have hf := x_ip hc hf
      refine lv_iload hx hb dX12_rates_153 (lv_at hl 10 rfl) ?_
      refine lv_if_ne (tgt := 161) hx hb dX12_rates_155 rfl (fun hc => ?_) (fun hc => ?_)
      · have hf := x_in hc hf
        refine lv_iload hx hb dX12_rates_161 (lv_at hl 4 rfl) ?_
        have kM9 : ∀ (ls : Array Slot) (H : Heap) (locs : List Loc), lv_has ls 12 [(0, .ref (oX O + 64)), (1, .int v1), (2, .int v2), (3, .int v3), (4, .int v4), (7, .int v7), (8, .int v8), (9, .int v9)] → x_R O K h H → va_S (oA O) s.heap H locs → W p l e (x_rm 2 44) s m args below meth c H locs 0 0 (MQ below (x_Qc O K h' (some (.int r))) args s 0 0 (oA O)) (F0 m 173 ls [.int (if v4 = 0 then v9 else v5)]) := by
          intro ls H locs hl hR hS
          obtain ⟨t10, et10, hf⟩ := x_lt hf
          refine x_nmi et10 ?_
          refine lv_istore (lv' := [(5, _), (0, _), (1, _), (2, _), (3, _), (4, _), (7, _), (8, _), (9, _)]) hx hb dX12_rates_173 hl (Nat.le_of_ble_eq_true rfl) rfl (fun ls hl => ?_)
          refine lv_iload hx hb dX12_rates_175 (lv_at hl 8 rfl) ?_
          refine lv_istore (lv' := [(6, _), (5, _), (0, _), (1, _), (2, _), (3, _), (4, _), (7, _), (8, _), (9, _)]) hx hb dX12_rates_177 hl (Nat.le_of_ble_eq_true rfl) rfl (fun ls hl => ?_)
          refine lv_iload_n hx hb dX12_rates_179 rfl (lv_at hl 5 rfl) ?_
          refine lv_if_le (tgt := 241) hx hb dX12_rates_180 rfl (fun hc => ?_) (fun hc => ?_)
          · have hf := x_ip hc hf
            exact B_X12_rates_241  C hk78  ls _ _ h _ _ _ _ _ _ _ _ _  (lv_sub hl [2, 3, 4, 5, 6, 1, 0, 7, 8, 9] rfl) hR hS hf
          · have hf := x_in hc hf
            refine lv_aload_n hx hb dX12_rates_183 rfl (lv_at hl 2 rfl) ?_
            refine gf_12_1 C hR (x_k hR 64 rfl) tw_1544 dX12_rates_184 ?_
            refine lv_sipush (v := 944) hx hb dX12_rates_187 rfl ?_
            refine lv_iload_n hx hb dX12_rates_190 rfl (lv_at hl 5 rfl) ?_
            refine lv_iadd hx hb dX12_rates_191 ?_
            refine lv_iconst (v := 1) hx hb dX12_rates_192 rfl ?_
            refine lv_isub hx hb dX12_rates_193 ?_
            obtain ⟨g11, hf⟩ := x_gd hf
            refine x_iald C hR (x_k1 (x_k hR 65 rfl)) (x_k2 (x_k hR 65 rfl) g11) dX12_rates_194 ?_
            refine lv_iload_n hx hb dX12_rates_195 rfl (lv_at hl 3 rfl) ?_
            refine lv_iload hx hb dX12_rates_196 (lv_at hl 9 rfl) ?_
            obtain ⟨v_12, ev_12, hf⟩ := x_bd hf
            refine x_cSi3 C hR hS (S_X12_betters  ev_12) mf_X12_betters tw_2082 (Nat.le_of_ble_eq_true rfl) (Nat.le_of_ble_eq_true rfl) hl.1 (Nat.le_of_ble_eq_true rfl) dX12_rates_198 ⟨Nat.le_refl _, Nat.le_refl _⟩ (fun H locs hR hS => ?_)
            refine lv_istore (lv' := [(11, _), (6, _), (5, _), (0, _), (1, _), (2, _), (3, _), (4, _), (7, _), (8, _), (9, _)]) hx hb dX12_rates_201 hl (Nat.le_of_ble_eq_true rfl) rfl (fun ls hl => ?_)
            refine lv_iload hx hb dX12_rates_203 (lv_at hl 7 rfl) ?_
            have kM13 : ∀ (ls : Array Slot) (H : Heap) (locs : List Loc), lv_has ls 12 [(0, .ref (oX O + 64)), (1, .int v1), (2, .int v2), (3, .int v3), (4, .int v4), (5, .int t10), (6, .int v9), (8, .int v8), (9, .int v9), (11, .int v_12)] → x_R O K h H → va_S (oA O) s.heap H locs → W p l e (x_rm 2 44) s m args below meth c H locs 0 0 (MQ below (x_Qc O K h' (some (.int r))) args s 0 0 (oA O)) (F0 m 220 ls [.int (if v4 = 0 then v_12 else (f_J9_min_7cf53 h v7 v_12))]) := by
              intro ls H locs hl hR hS
              obtain ⟨t14, et14, hf⟩ := x_lt hf
              refine x_nmi et14 ?_
              refine lv_istore (lv' := [(7, _), (0, _), (1, _), (2, _), (3, _), (4, _), (5, _), (6, _), (8, _), (9, _), (11, _)]) hx hb dX12_rates_220 hl (Nat.le_of_ble_eq_true rfl) rfl (fun ls hl => ?_)
              refine lv_iload hx hb dX12_rates_222 (lv_at hl 5 rfl) ?_
              have kM15 : ∀ (ls : Array Slot) (H : Heap) (locs : List Loc), lv_has ls 12 [(0, .ref (oX O + 64)), (1, .int v1), (2, .int v2), (3, .int v3), (4, .int v4), (5, .int t10), (6, .int v9), (7, .int t14), (9, .int v9)] → x_R O K h H → va_S (oA O) s.heap H locs → W p l e (x_rm 2 44) s m args below meth c H locs 0 0 (MQ below (x_Qc O K h' (some (.int r))) args s 0 0 (oA O)) (F0 m 239 ls [.int (if v4 = 0 then v_12 else (f_J9_max_7cf53 h v8 v_12))]) := by
                intro ls H locs hl hR hS
                obtain ⟨t16, et16, hf⟩ := x_lt hf
                refine x_nmi et16 ?_
                refine lv_istore (lv' := [(8, _), (0, _), (1, _), (2, _), (3, _), (4, _), (5, _), (6, _), (7, _), (9, _)]) hx hb dX12_rates_239 hl (Nat.le_of_ble_eq_true rfl) rfl (fun ls hl => ?_)
                exact B_X12_rates_241  C hk78  ls _ _ h _ _ _ _ _ _ _ _ _  (lv_sub hl [1, 2, 3, 4, 5, 6, 7, 8, 0, 9] rfl) hR hS hf
              refine lv_if_ne (tgt := 232) hx hb dX12_rates_224 rfl (fun hc => ?_) (fun hc => ?_)
              · try simp only [if_neg hc] at kM15
                refine lv_iload hx hb dX12_rates_232 (lv_at hl 8 rfl) ?_
                refine lv_iload hx hb dX12_rates_234 (lv_at hl 10 rfl) ?_
                refine x_cSi2 C hR hS (S_J9_max_7cf53  rfl) mf_J9_max_7cf53 tw_1902 (Nat.le_of_ble_eq_true rfl) (Nat.le_of_ble_eq_true rfl) hl.1 (Nat.le_of_ble_eq_true rfl) dX12_rates_236 ⟨Nat.le_refl _, Nat.le_refl _⟩ (fun H locs hR hS => ?_)
                exact kM15 ls _ _ (lv_sub hl [1, 2, 3, 4, 5, 6, 7, 0, 9] rfl) hR hS
              · try simp only [if_pos hc] at kM15
                refine lv_iload hx hb dX12_rates_227 (lv_at hl 10 rfl) ?_
                refine lv_goto (tgt := 239) hx hb dX12_rates_229 rfl ?_
                exact kM15 ls _ _ (lv_sub hl [1, 2, 3, 4, 5, 6, 7, 0, 9] rfl) hR hS
            refine lv_if_ne (tgt := 213) hx hb dX12_rates_205 rfl (fun hc => ?_) (fun hc => ?_)
            · try simp only [if_neg hc] at kM13
              refine lv_iload hx hb dX12_rates_213 (lv_at hl 8 rfl) ?_
              refine lv_iload hx hb dX12_rates_215 (lv_at hl 0 rfl) ?_
              refine x_cSi2 C hR hS (S_J9_min_7cf53  rfl) mf_J9_min_7cf53 tw_1901 (Nat.le_of_ble_eq_true rfl) (Nat.le_of_ble_eq_true rfl) hl.1 (Nat.le_of_ble_eq_true rfl) dX12_rates_217 ⟨Nat.le_refl _, Nat.le_refl _⟩ (fun H locs hR hS => ?_)
              exact kM13 ls _ _ (lv_sub hl [3, 4, 5, 6, 7, 2, 1, 9, 10, 0] rfl) hR hS
            · try simp only [if_pos hc] at kM13
              refine lv_iload hx hb dX12_rates_208 (lv_at hl 0 rfl) ?_
              refine lv_goto (tgt := 220) hx hb dX12_rates_210 rfl ?_
              exact kM13 ls _ _ (lv_sub hl [3, 4, 5, 6, 7, 2, 1, 9, 10, 0] rfl) hR hS
        refine lv_if_ne (tgt := 171) hx hb dX12_rates_163 rfl (fun hc => ?_) (fun hc => ?_)
        · try simp only [if_neg hc] at kM9
          refine lv_iload hx hb dX12_rates_171 (lv_at hl 5 rfl) ?_
          exact kM9 ls _ _ (lv_sub hl [0, 1, 2, 3, 4, 7, 8, 9] rfl) hR hS
        · try simp only [if_pos hc] at kM9
          refine lv_iload hx hb dX12_rates_166 (lv_at hl 9 rfl) ?_
          refine lv_goto (tgt := 173) hx hb dX12_rates_168 rfl ?_
          exact kM9 ls _ _ (lv_sub hl [0, 1, 2, 3, 4, 7, 8, 9] rfl) hR hS
      · have hf := x_ip hc hf
        refine lv_goto (tgt := 244) hx hb dX12_rates_158 rfl ?_
        exact B_X12_rates_244  C hk78  ls _ _ h _ _ _ _ _ _ _ _ _  (lv_sub hl [0, 1, 2, 3, 4, 5, 6, 7, 8, 9] rfl) hR hS hf
    · have hf := x_in hc hf
      refine lv_iload hx hb dX12_rates_97 (lv_at hl 10 rfl) ?_
      refine lv_if_eq (tgt := 144) hx hb dX12_rates_99 rfl (fun hc => ?_) (fun hc => ?_)
      · have hf := x_ip hc hf
        exact B_X12_rates_144  C hk78 ih  ls _ _ h _ _ _ _ _ _ _ _ _ _  (lv_sub hl [0, 1, 2, 3, 4, 5, 6, 7, 8, 9, 11] rfl) hR hS hf
      · have hf := x_in hc hf
        refine lv_aload_n hx hb dX12_rates_102 rfl (lv_at hl 0 rfl) ?_
        refine gf_12_1 C hR (x_k hR 64 rfl) tw_1544 dX12_rates_103 ?_
        refine lv_sipush (v := 944) hx hb dX12_rates_106 rfl ?_
        refine lv_iload hx hb dX12_rates_109 (lv_at hl 11 rfl) ?_
        refine lv_iadd hx hb dX12_rates_111 ?_
        refine lv_iconst (v := 1) hx hb dX12_rates_112 rfl ?_
        refine lv_isub hx hb dX12_rates_113 ?_
        obtain ⟨g17, hf⟩ := x_gd hf
        refine x_iald C hR (x_k1 (x_k hR 65 rfl)) (x_k2 (x_k hR 65 rfl) g17) dX12_rates_114 ?_
        refine lv_iload_n hx hb dX12_rates_115 rfl (lv_at hl 1 rfl) ?_
        refine lv_iload hx hb dX12_rates_116 (lv_at hl 9 rfl) ?_
        obtain ⟨v_18, ev_18, hf⟩ := x_bd hf
        refine x_cSi3 C hR hS (S_X12_betters  ev_18) mf_X12_betters tw_2082 (Nat.le_of_ble_eq_true rfl) (Nat.le_of_ble_eq_true rfl) hl.1 (Nat.le_of_ble_eq_true rfl) dX12_rates_118 ⟨Nat.le_refl _, Nat.le_refl _⟩ (fun H locs hR hS => ?_)
        refine lv_aload_n hx hb dX12_rates_121 rfl (lv_at hl 0 rfl) ?_
        refine gf_12_1 C hR (x_k hR 64 rfl) tw_1544 dX12_rates_122 ?_
        refine lv_sipush (v := 944) hx hb dX12_rates_125 rfl ?_
        refine lv_iload hx hb dX12_rates_128 (lv_at hl 11 rfl) ?_
        refine lv_iadd hx hb dX12_rates_130 ?_
        obtain ⟨g19, hf⟩ := x_gd hf
        refine x_iald C hR (x_k1 (x_k hR 65 rfl)) (x_k2 (x_k hR 65 rfl) g19) dX12_rates_131 ?_
        refine lv_isub hx hb dX12_rates_132 ?_
        refine x_cSi1 C hR hS (S_J9_abs_0f7a4  rfl) mf_J9_abs_0f7a4 tw_1970 (Nat.le_of_ble_eq_true rfl) (Nat.le_of_ble_eq_true rfl) hl.1 (Nat.le_of_ble_eq_true rfl) dX12_rates_133 ⟨Nat.le_refl _, Nat.le_refl _⟩ (fun H locs hR hS => ?_)
        refine lv_iconst (v := 1) hx hb dX12_rates_136 rfl ?_
        have kM20 : ∀ (ls : Array Slot) (H : Heap) (locs : List Loc), lv_has ls 12 [(0, .ref (oX O + 64)), (1, .int v1), (2, .int v2), (3, .int v3), (4, .int v4), (5, .int v5), (6, .int v6), (7, .int v7), (8, .int v8), (9, .int v9), (11, .int v11)] → x_R O K h H → va_S (oA O) s.heap H locs → W p l e (x_rm 2 44) s m args below meth c H locs 0 0 (MQ below (x_Qc O K h' (some (.int r))) args s 0 0 (oA O)) (F0 m 145 ls [.int (if 1 < (f_J9_abs_0f7a4 h (v_18 - (h.1 (oX O + 65) (944 + v11).toNatClampNeg))) then 0 else 1)]) := by
          intro ls H locs hl hR hS
          obtain ⟨t21, et21, hf⟩ := x_lt hf
          refine x_nmi et21 ?_
          refine lv_istore (lv' := [(10, _), (0, _), (1, _), (2, _), (3, _), (4, _), (5, _), (6, _), (7, _), (8, _), (9, _), (11, _)]) hx hb dX12_rates_145 hl (Nat.le_of_ble_eq_true rfl) rfl (fun ls hl => ?_)
          refine lv_iinc (k := 11) (v := _ + 1) (lv' := [(11, _), (10, _), (0, _), (1, _), (2, _), (3, _), (4, _), (5, _), (6, _), (7, _), (8, _), (9, _)]) hx hb dX12_rates_147 hl rfl (x_inc 1 1 rfl _) (Nat.le_of_ble_eq_true rfl) rfl (fun ls hl => ?_)
          refine lv_goto (tgt := 91) hx hb dX12_rates_150 rfl ?_
          exact ih ls _ _ h _ _ _ _ _ _ _ _ _ _ _  (lv_sub hl [2, 3, 4, 5, 6, 7, 8, 9, 10, 11, 1, 0] rfl) hR hS hf
        refine lv_icmp_gt (tgt := 144) hx hb dX12_rates_137 rfl (fun hc => ?_) (fun hc => ?_)
        · try simp only [if_pos hc] at kM20
          refine lv_iconst (v := 0) hx hb dX12_rates_144 rfl ?_
          exact kM20 ls _ _ (lv_sub hl [0, 1, 2, 3, 4, 5, 6, 7, 8, 9, 11] rfl) hR hS
        · try simp only [if_neg hc] at kM20
          refine lv_iconst (v := 1) hx hb dX12_rates_140 rfl ?_
          refine lv_goto (tgt := 145) hx hb dX12_rates_141 rfl ?_
          exact kM20 ls _ _ (lv_sub hl [0, 1, 2, 3, 4, 5, 6, 7, 8, 9, 11] rfl) hR hS
set_option maxRecDepth 20000 in
theorem B_X12_rates_78 {p : Program} {l : Launch} {e : Env} {s : State} {m : MethodId} {args : Array Value} {below : List Frame} {meth : Method} {c : Code} {O : XO} {K : XK} {r : Int32} {h' : XH}   (C : x_C p s m args meth c O cX12_rates 12 RX12 (some .int))   : ∀ (n : Nat) (ls : Array Slot) (H : Heap) (locs : List Loc) (h : XH) (v1 : Int32) (v2 : Int32) (v3 : Int32) (v4 : Int32) (v5 : Int32) (v6 : Int32) (v7 : Int32) (v8 : Int32) (v9 : Int32) (hl : lv_has ls 12 [(0, .ref (oX O + 64)), (1, .int v1), (2, .int v2), (3, .int v3), (4, .int v4), (5, .int v5), (6, .int v6), (7, .int v7), (8, .int v8), (9, .int v9)]) (hR : x_R O K h H) (hS : va_S (oA O) s.heap H locs) (hf : f_X12_rates_78 (oX O) n h v1 v2 v3 v4 v5 v6 v7 v8 v9 = some (r, h')), W p l e (x_rm 2 44) s m args below meth c H locs 0 0 (MQ below (x_Qc O K h' (some (.int r))) args s 0 0 (oA O)) (F0 m 78 ls []) := by
  have hx := C.1
  have hb := C.2.1
  intro n
  induction n with
  | zero =>
    intro ls H locs h v1 v2 v3 v4 v5 v6 v7 v8 v9 hl hR hS hf
    rw [f_X12_rates_78] at hf
    cases hf
  | succ n ih =>
    intro ls H locs h v1 v2 v3 v4 v5 v6 v7 v8 v9 hl hR hS hf
    rw [f_X12_rates_78] at hf
    refine lv_iload hx hb dX12_rates_78 (lv_at hl 9 rfl) ?_
    refine lv_bipush (v := 100) hx hb dX12_rates_80 rfl ?_
    refine lv_icmp_gt (tgt := 250) hx hb dX12_rates_82 rfl (fun hc => ?_) (fun hc => ?_)
    · have hf := x_ip hc hf
      refine lv_iload_n hx hb dX12_rates_250 rfl (lv_at hl 2 rfl) ?_
      have kM8 : ∀ (ls : Array Slot) (H : Heap) (locs : List Loc), lv_has ls 12 [] → x_R O K h H → va_S (oA O) s.heap H locs → W p l e (x_rm 2 44) s m args below meth c H locs 0 0 (MQ below (x_Qc O K h' (some (.int r))) args s 0 0 (oA O)) (F0 m 291 ls [.int (if v2 = 0 then v4 else (if v2 = 1 then v5 else (if v2 = 2 then v6 else (if v2 = 3 then v7 else v8))))]) := by
        intro ls H locs hl hR hS
        cases hf
        exact x_iret C hR hS dX12_rates_291
      refine lv_if_ne (tgt := 259) hx hb dX12_rates_251 rfl (fun hc => ?_) (fun hc => ?_)
      · try simp only [if_neg hc] at kM8
        refine lv_iload_n hx hb dX12_rates_259 rfl (lv_at hl 2 rfl) ?_
        refine lv_iconst (v := 1) hx hb dX12_rates_260 rfl ?_
        refine lv_icmp_ne (tgt := 269) hx hb dX12_rates_261 rfl (fun hc => ?_) (fun hc => ?_)
        · try simp only [if_neg hc] at kM8
          refine lv_iload_n hx hb dX12_rates_269 rfl (lv_at hl 2 rfl) ?_
          refine lv_iconst (v := 2) hx hb dX12_rates_270 rfl ?_
          refine lv_icmp_ne (tgt := 279) hx hb dX12_rates_271 rfl (fun hc => ?_) (fun hc => ?_)
          · try simp only [if_neg hc] at kM8
            refine lv_iload_n hx hb dX12_rates_279 rfl (lv_at hl 2 rfl) ?_
            refine lv_iconst (v := 3) hx hb dX12_rates_280 rfl ?_
            refine lv_icmp_ne (tgt := 289) hx hb dX12_rates_281 rfl (fun hc => ?_) (fun hc => ?_)
            · try simp only [if_neg hc] at kM8
              refine lv_iload hx hb dX12_rates_289 (lv_at hl 8 rfl) ?_
              exact kM8 ls _ _ (lv_sub hl [] rfl) hR hS
            · try simp only [if_pos hc] at kM8
              refine lv_iload hx hb dX12_rates_284 (lv_at hl 7 rfl) ?_
              refine lv_goto (tgt := 291) hx hb dX12_rates_286 rfl ?_
              exact kM8 ls _ _ (lv_sub hl [] rfl) hR hS
          · try simp only [if_pos hc] at kM8
            refine lv_iload hx hb dX12_rates_274 (lv_at hl 6 rfl) ?_
            refine lv_goto (tgt := 291) hx hb dX12_rates_276 rfl ?_
            exact kM8 ls _ _ (lv_sub hl [] rfl) hR hS
        · try simp only [if_pos hc] at kM8
          refine lv_iload hx hb dX12_rates_264 (lv_at hl 5 rfl) ?_
          refine lv_goto (tgt := 291) hx hb dX12_rates_266 rfl ?_
          exact kM8 ls _ _ (lv_sub hl [] rfl) hR hS
      · try simp only [if_pos hc] at kM8
        refine lv_iload hx hb dX12_rates_254 (lv_at hl 4 rfl) ?_
        refine lv_goto (tgt := 291) hx hb dX12_rates_256 rfl ?_
        exact kM8 ls _ _ (lv_sub hl [] rfl) hR hS
    · have hf := x_in hc hf
      refine lv_iconst (v := 1) hx hb dX12_rates_85 rfl ?_
      refine lv_istore (lv' := [(10, _), (0, _), (1, _), (2, _), (3, _), (4, _), (5, _), (6, _), (7, _), (8, _), (9, _)]) hx hb dX12_rates_86 hl (Nat.le_of_ble_eq_true rfl) rfl (fun ls hl => ?_)
      refine lv_iconst (v := 1) hx hb dX12_rates_88 rfl ?_
      refine lv_istore (lv' := [(11, _), (10, _), (0, _), (1, _), (2, _), (3, _), (4, _), (5, _), (6, _), (7, _), (8, _), (9, _)]) hx hb dX12_rates_89 hl (Nat.le_of_ble_eq_true rfl) rfl (fun ls hl => ?_)
      exact B_X12_rates_91  C ih x_FU ls _ _ h _ _ _ _ _ _ _ _ _ _ _  (lv_sub hl [2, 3, 4, 5, 6, 7, 8, 9, 10, 11, 1, 0] rfl) hR hS hf
set_option maxRecDepth 20000 in
theorem S_X12_rates {l : Launch} {O : XO} {K : XK} {h : XH} {v1 : Int32} {v2 : Int32}  {r : Int32} {h' : XH}  (hf : f_X12_rates (oX O) h v1 v2 = some (r, h')) : x_M l O K yX12_rates cX12_rates 12 (some .int) 2 44 h [.ref (oX O + 64), .int v1, .int v2] (some (.int r)) h' := by
  refine x_enter (by decide) (Nat.le_of_ble_eq_true rfl) (fun p e s m args below meth c C hR ls hl => ?_)
  have hS : va_S (oA O) s.heap s.heap [] := va_S.rf
  have hx := C.1
  have hb := C.2.1
  have hl : lv_has ls 12 [(0, .ref (oX O + 64)), (1, .int v1), (2, .int v2)] := hl
  rw [f_X12_rates] at hf
  refine lv_aload_n hx hb dX12_rates_0 rfl (lv_at hl 0 rfl) ?_
  refine lv_iconst (v := 0) hx hb dX12_rates_1 rfl ?_
  obtain ⟨h1, eh1, hf⟩ := x_lt hf
  refine pf_12_0 C hR hS (x_k hR 64 rfl) tw_1543 dX12_rates_2 (fun H locs hR hS => ?_)
  rw [← eh1] at hR
  refine lv_aload_n hx hb dX12_rates_5 rfl (lv_at hl 0 rfl) ?_
  refine lv_iload_n hx hb dX12_rates_6 rfl (lv_at hl 1 rfl) ?_
  refine lv_iconst (v := 0) hx hb dX12_rates_7 rfl ?_
  refine lv_sipush (v := 9999) hx hb dX12_rates_8 rfl ?_
  refine x_cSi3 C hR hS (S_X12_in  rfl) mf_X12_in tw_1756 (Nat.le_of_ble_eq_true rfl) (Nat.le_of_ble_eq_true rfl) hl.1 (Nat.le_of_ble_eq_true rfl) dX12_rates_11 ⟨Nat.le_refl _, Nat.le_refl _⟩ (fun H locs hR hS => ?_)
  have kM2 : ∀ (ls : Array Slot) (H : Heap) (locs : List Loc), lv_has ls 12 [(0, .ref (oX O + 64)), (1, .int v1), (2, .int v2)] → x_R O K h1 H → va_S (oA O) s.heap H locs → W p l e (x_rm 2 44) s m args below meth c H locs 0 0 (MQ below (x_Qc O K h' (some (.int r))) args s 0 0 (oA O)) (F0 m 22 ls [.int (if (f_X12_in h1 v1 0 9999) = 0 then 1 else 0), .ref (oX O + 64)]) := by
    intro ls H locs hl hR hS
    refine lv_iconst (v := 1) hx hb dX12_rates_22 rfl ?_
    obtain ⟨q3, eq3, hf⟩ := x_bd hf
    refine x_cVi2 C hR hS (S_X12_throwsIf  eq3) (x_k hR 64 rfl) (by decide) rfl mf_X12_throwsIf tw_1741 (Nat.le_of_ble_eq_true rfl) (Nat.le_of_ble_eq_true rfl) hl.1 (Nat.le_of_ble_eq_true rfl) dX12_rates_23 ⟨Nat.le_refl _, Nat.le_refl _⟩ (fun H locs hR hS => ?_)
    refine lv_if_ne (tgt := 51) hx hb dX12_rates_26 rfl (fun hc => ?_) (fun hc => ?_)
    · have hf := x_in hc hf
      exact B_X12_rates_51  C   ls _ _ q3.2  (lv_sub hl [] rfl) hR hS hf
    · have hf := x_ip hc hf
      refine lv_aload_n hx hb dX12_rates_29 rfl (lv_at hl 0 rfl) ?_
      refine lv_iload_n hx hb dX12_rates_30 rfl (lv_at hl 2 rfl) ?_
      refine lv_iconst (v := 0) hx hb dX12_rates_31 rfl ?_
      refine lv_iconst (v := 4) hx hb dX12_rates_32 rfl ?_
      refine x_cSi3 C hR hS (S_X12_in  rfl) mf_X12_in tw_1756 (Nat.le_of_ble_eq_true rfl) (Nat.le_of_ble_eq_true rfl) hl.1 (Nat.le_of_ble_eq_true rfl) dX12_rates_33 ⟨Nat.le_refl _, Nat.le_refl _⟩ (fun H locs hR hS => ?_)
      have kM4 : ∀ (ls : Array Slot) (H : Heap) (locs : List Loc), lv_has ls 12 [(0, .ref (oX O + 64)), (1, .int v1), (2, .int v2)] → x_R O K q3.2 H → va_S (oA O) s.heap H locs → W p l e (x_rm 2 44) s m args below meth c H locs 0 0 (MQ below (x_Qc O K h' (some (.int r))) args s 0 0 (oA O)) (F0 m 44 ls [.int (if (f_X12_in q3.2 v2 0 4) = 0 then 1 else 0), .ref (oX O + 64)]) := by
        intro ls H locs hl hR hS
        refine lv_iconst (v := 2) hx hb dX12_rates_44 rfl ?_
        obtain ⟨q5, eq5, hf⟩ := x_bd hf
        refine x_cVi2 C hR hS (S_X12_throwsIf  eq5) (x_k hR 64 rfl) (by decide) rfl mf_X12_throwsIf tw_1741 (Nat.le_of_ble_eq_true rfl) (Nat.le_of_ble_eq_true rfl) hl.1 (Nat.le_of_ble_eq_true rfl) dX12_rates_45 ⟨Nat.le_refl _, Nat.le_refl _⟩ (fun H locs hR hS => ?_)
        refine lv_if_eq (tgt := 53) hx hb dX12_rates_48 rfl (fun hc => ?_) (fun hc => ?_)
        · have hf := x_ip hc hf
          refine lv_aload_n hx hb dX12_rates_53 rfl (lv_at hl 0 rfl) ?_
          refine gf_12_1 C hR (x_k hR 64 rfl) tw_1544 dX12_rates_54 ?_
          refine lv_iconst (v := 5) hx hb dX12_rates_57 rfl ?_
          obtain ⟨g6, hf⟩ := x_gd hf
          refine x_iald C hR (x_k1 (x_k hR 65 rfl)) (x_k2 (x_k hR 65 rfl) g6) dX12_rates_58 ?_
          obtain ⟨t7, et7, hf⟩ := x_lt hf
          refine x_nmi et7 ?_
          refine lv_istore_n (lv' := [(3, _), (0, _), (1, _), (2, _)]) hx hb dX12_rates_59 rfl hl (Nat.le_of_ble_eq_true rfl) rfl (fun ls hl => ?_)
          refine lv_iconst (v := 0) hx hb dX12_rates_60 rfl ?_
          refine lv_istore (lv' := [(4, _), (3, _), (0, _), (1, _), (2, _)]) hx hb dX12_rates_61 hl (Nat.le_of_ble_eq_true rfl) rfl (fun ls hl => ?_)
          refine lv_iconst (v := (-1)) hx hb dX12_rates_63 rfl ?_
          refine lv_istore (lv' := [(5, _), (4, _), (3, _), (0, _), (1, _), (2, _)]) hx hb dX12_rates_64 hl (Nat.le_of_ble_eq_true rfl) rfl (fun ls hl => ?_)
          refine lv_iconst (v := (-1)) hx hb dX12_rates_66 rfl ?_
          refine lv_istore (lv' := [(6, _), (5, _), (4, _), (3, _), (0, _), (1, _), (2, _)]) hx hb dX12_rates_67 hl (Nat.le_of_ble_eq_true rfl) rfl (fun ls hl => ?_)
          refine lv_iconst (v := (-1)) hx hb dX12_rates_69 rfl ?_
          refine lv_istore (lv' := [(7, _), (6, _), (5, _), (4, _), (3, _), (0, _), (1, _), (2, _)]) hx hb dX12_rates_70 hl (Nat.le_of_ble_eq_true rfl) rfl (fun ls hl => ?_)
          refine lv_iconst (v := (-1)) hx hb dX12_rates_72 rfl ?_
          refine lv_istore (lv' := [(8, _), (7, _), (6, _), (5, _), (4, _), (3, _), (0, _), (1, _), (2, _)]) hx hb dX12_rates_73 hl (Nat.le_of_ble_eq_true rfl) rfl (fun ls hl => ?_)
          refine lv_iconst (v := 0) hx hb dX12_rates_75 rfl ?_
          refine lv_istore (lv' := [(9, _), (8, _), (7, _), (6, _), (5, _), (4, _), (3, _), (0, _), (1, _), (2, _)]) hx hb dX12_rates_76 hl (Nat.le_of_ble_eq_true rfl) rfl (fun ls hl => ?_)
          exact B_X12_rates_78  C  x_FU ls _ _ q5.2 _ _ _ _ _ _ _ _ _  (lv_sub hl [7, 8, 9, 6, 5, 4, 3, 2, 1, 0] rfl) hR hS hf
        · have hf := x_in hc hf
          exact B_X12_rates_51  C   ls _ _ q5.2  (lv_sub hl [] rfl) hR hS hf
      refine lv_if_ne (tgt := 43) hx hb dX12_rates_36 rfl (fun hc => ?_) (fun hc => ?_)
      · try simp only [if_neg hc] at kM4
        refine lv_iconst (v := 0) hx hb dX12_rates_43 rfl ?_
        exact kM4 ls _ _ (lv_sub hl [0, 1, 2] rfl) hR hS
      · try simp only [if_pos hc] at kM4
        refine lv_iconst (v := 1) hx hb dX12_rates_39 rfl ?_
        refine lv_goto (tgt := 44) hx hb dX12_rates_40 rfl ?_
        exact kM4 ls _ _ (lv_sub hl [0, 1, 2] rfl) hR hS
  refine lv_if_ne (tgt := 21) hx hb dX12_rates_14 rfl (fun hc => ?_) (fun hc => ?_)
  · try simp only [if_neg hc] at kM2
    refine lv_iconst (v := 0) hx hb dX12_rates_21 rfl ?_
    exact kM2 ls _ _ (lv_sub hl [0, 1, 2] rfl) hR hS
  · try simp only [if_pos hc] at kM2
    refine lv_iconst (v := 1) hx hb dX12_rates_17 rfl ?_
    refine lv_goto (tgt := 22) hx hb dX12_rates_18 rfl ?_
    exact kM2 ls _ _ (lv_sub hl [0, 1, 2] rfl) hR hS
def f_X12_heldBy_85 (k6 : XH → Int32 → Int32 → Int32 → Int32 → Int32 → Option (Int32 × XH)) (x : Nat) (h : XH) (v1 : Int32) (v2 : Int32) (v3 : Int32) (v4 : Int32) (v5 : Int32) : Option (Int32 × XH) := k6 h v1 v2 v3 v4 (v5 + 1)
def f_X12_heldBy_79 (k6 : XH → Int32 → Int32 → Int32 → Int32 → Int32 → Option (Int32 × XH)) (k20 : XH → Int32 → Int32 → Int32 → Int32 → Int32 → Int32 → Option (Int32 × XH)) (x : Nat) (h : XH) (v1 : Int32) (v2 : Int32) (v3 : Int32) (v4 : Int32) (v5 : Int32) (v6 : Int32) : Option (Int32 × XH) := k20 h v1 v2 v3 v4 v5 (v6 + 1)
def f_X12_heldBy_65 (k6 : XH → Int32 → Int32 → Int32 → Int32 → Int32 → Option (Int32 × XH)) (k20 : XH → Int32 → Int32 → Int32 → Int32 → Int32 → Int32 → Option (Int32 × XH)) (x : Nat) (h : XH) (v1 : Int32) (v2 : Int32) (v3 : Int32) (v4 : Int32) (v5 : Int32) (v6 : Int32) : Option (Int32 × XH) := Option.bind (f_X12_heldOf x h v1 v5 v6) (fun q5 => f_X12_heldBy_79 k6 k20 x q5.2 v1 v2 v3 (v4 + q5.1) v5 v6)
def f_X12_heldBy_20 (k6 : XH → Int32 → Int32 → Int32 → Int32 → Int32 → Option (Int32 × XH)) (x : Nat) : Nat → XH → Int32 → Int32 → Int32 → Int32 → Int32 → Int32 → Option (Int32 × XH)
  | 0, _, _, _, _, _, _, _ => none
  | n + 1, h, v1, v2, v3, v4, v5, v6 => Option.bind (f_X12_of x h v5 2) (fun v_2 => if v_2 ≤ v6 then f_X12_heldBy_85 k6 x h v1 v2 v3 v4 v5 else Option.bind (f_X12_isPut x h v5) (fun v_3 => if v_3 = 0 then f_X12_heldBy_85 k6 x h v1 v2 v3 v4 v5 else Option.bind (f_X12_cardOf x h v5 v6) (fun v_4 => if v_4 = v2 then f_X12_heldBy_65 k6 (f_X12_heldBy_20 k6 x n) x h v1 v2 v3 v4 v5 v6 else Option.bind (f_X12_cardOf x h v5 v6) (fun v_6 => if v_6 = v3 then f_X12_heldBy_65 k6 (f_X12_heldBy_20 k6 x n) x h v1 v2 v3 v4 v5 v6 else f_X12_heldBy_79 k6 (f_X12_heldBy_20 k6 x n) x h v1 v2 v3 v4 v5 v6))))
def f_X12_heldBy_6 (x : Nat) : Nat → XH → Int32 → Int32 → Int32 → Int32 → Int32 → Option (Int32 × XH)
  | 0, _, _, _, _, _, _ => none
  | n + 1, h, v1, v2, v3, v4, v5 => if x_b 1 6927 = true then if (h.1 (x + 65) (1 : Int32).toNatClampNeg) ≤ v5 then some (v4, h) else f_X12_heldBy_20 (f_X12_heldBy_6 x n) x x_FU h v1 v2 v3 v4 v5 0 else none
def f_X12_heldBy (x : Nat) (h : XH) (v1 : Int32) (v2 : Int32) (v3 : Int32) : Option (Int32 × XH) := f_X12_heldBy_6 x x_FU h v1 v2 v3 0 0
set_option maxRecDepth 20000 in
theorem B_X12_heldBy_85 {p : Program} {l : Launch} {e : Env} {s : State} {m : MethodId} {args : Array Value} {below : List Frame} {meth : Method} {c : Code} {O : XO} {K : XK} {r : Int32} {h' : XH}  {k6 : XH → Int32 → Int32 → Int32 → Int32 → Int32 → Option (Int32 × XH)} (C : x_C p s m args meth c O cX12_heldBy 7 RX12 (some .int)) (hk6 : ∀ (ls : Array Slot) (H : Heap) (locs : List Loc) (h : XH) (v1 : Int32) (v2 : Int32) (v3 : Int32) (v4 : Int32) (v5 : Int32), lv_has ls 7 [(0, .ref (oX O + 64)), (1, .int v1), (2, .int v2), (3, .int v3), (4, .int v4), (5, .int v5)] → x_R O K h H → va_S (oA O) s.heap H locs → k6 h v1 v2 v3 v4 v5 = some (r, h') → W p l e (x_rm 7 171) s m args below meth c H locs 0 0 (MQ below (x_Qc O K h' (some (.int r))) args s 0 0 (oA O)) (F0 m 6 ls []))  (ls : Array Slot) (H : Heap) (locs : List Loc) (h : XH) (v1 : Int32) (v2 : Int32) (v3 : Int32) (v4 : Int32) (v5 : Int32) (hl : lv_has ls 7 [(0, .ref (oX O + 64)), (1, .int v1), (2, .int v2), (3, .int v3), (4, .int v4), (5, .int v5)]) (hR : x_R O K h H) (hS : va_S (oA O) s.heap H locs) (hf : f_X12_heldBy_85 k6 (oX O) h v1 v2 v3 v4 v5 = some (r, h')) : W p l e (x_rm 7 171) s m args below meth c H locs 0 0 (MQ below (x_Qc O K h' (some (.int r))) args s 0 0 (oA O)) (F0 m 85 ls []) := by
  have hx := C.1
  have hb := C.2.1
  rw [f_X12_heldBy_85] at hf
  refine lv_iinc (k := 5) (v := _ + 1) (lv' := [(5, _), (0, _), (1, _), (2, _), (3, _), (4, _)]) hx hb dX12_heldBy_85 hl rfl (x_inc 1 1 rfl _) (Nat.le_of_ble_eq_true rfl) rfl (fun ls hl => ?_)
  refine lv_goto (tgt := 6) hx hb dX12_heldBy_88 rfl ?_
  exact hk6 ls _ _ h _ _ _ _ _  (lv_sub hl [1, 2, 3, 4, 5, 0] rfl) hR hS hf
set_option maxRecDepth 20000 in
theorem B_X12_heldBy_79 {p : Program} {l : Launch} {e : Env} {s : State} {m : MethodId} {args : Array Value} {below : List Frame} {meth : Method} {c : Code} {O : XO} {K : XK} {r : Int32} {h' : XH}  {k6 : XH → Int32 → Int32 → Int32 → Int32 → Int32 → Option (Int32 × XH)} {k20 : XH → Int32 → Int32 → Int32 → Int32 → Int32 → Int32 → Option (Int32 × XH)} (C : x_C p s m args meth c O cX12_heldBy 7 RX12 (some .int)) (hk6 : ∀ (ls : Array Slot) (H : Heap) (locs : List Loc) (h : XH) (v1 : Int32) (v2 : Int32) (v3 : Int32) (v4 : Int32) (v5 : Int32), lv_has ls 7 [(0, .ref (oX O + 64)), (1, .int v1), (2, .int v2), (3, .int v3), (4, .int v4), (5, .int v5)] → x_R O K h H → va_S (oA O) s.heap H locs → k6 h v1 v2 v3 v4 v5 = some (r, h') → W p l e (x_rm 7 171) s m args below meth c H locs 0 0 (MQ below (x_Qc O K h' (some (.int r))) args s 0 0 (oA O)) (F0 m 6 ls [])) (hk20 : ∀ (ls : Array Slot) (H : Heap) (locs : List Loc) (h : XH) (v1 : Int32) (v2 : Int32) (v3 : Int32) (v4 : Int32) (v5 : Int32) (v6 : Int32), lv_has ls 7 [(0, .ref (oX O + 64)), (1, .int v1), (2, .int v2), (3, .int v3), (4, .int v4), (5, .int v5), (6, .int v6)] → x_R O K h H → va_S (oA O) s.heap H locs → k20 h v1 v2 v3 v4 v5 v6 = some (r, h') → W p l e (x_rm 7 171) s m args below meth c H locs 0 0 (MQ below (x_Qc O K h' (some (.int r))) args s 0 0 (oA O)) (F0 m 20 ls []))  (ls : Array Slot) (H : Heap) (locs : List Loc) (h : XH) (v1 : Int32) (v2 : Int32) (v3 : Int32) (v4 : Int32) (v5 : Int32) (v6 : Int32) (hl : lv_has ls 7 [(0, .ref (oX O + 64)), (1, .int v1), (2, .int v2), (3, .int v3), (4, .int v4), (5, .int v5), (6, .int v6)]) (hR : x_R O K h H) (hS : va_S (oA O) s.heap H locs) (hf : f_X12_heldBy_79 k6 k20 (oX O) h v1 v2 v3 v4 v5 v6 = some (r, h')) : W p l e (x_rm 7 171) s m args below meth c H locs 0 0 (MQ below (x_Qc O K h' (some (.int r))) args s 0 0 (oA O)) (F0 m 79 ls []) := by
  have hx := C.1
  have hb := C.2.1
  rw [f_X12_heldBy_79] at hf
  refine lv_iinc (k := 6) (v := _ + 1) (lv' := [(6, _), (0, _), (1, _), (2, _), (3, _), (4, _), (5, _)]) hx hb dX12_heldBy_79 hl rfl (x_inc 1 1 rfl _) (Nat.le_of_ble_eq_true rfl) rfl (fun ls hl => ?_)
  refine lv_goto (tgt := 20) hx hb dX12_heldBy_82 rfl ?_
  exact hk20 ls _ _ h _ _ _ _ _ _  (lv_sub hl [1, 2, 3, 4, 5, 6, 0] rfl) hR hS hf
set_option maxRecDepth 20000 in
theorem B_X12_heldBy_65 {p : Program} {l : Launch} {e : Env} {s : State} {m : MethodId} {args : Array Value} {below : List Frame} {meth : Method} {c : Code} {O : XO} {K : XK} {r : Int32} {h' : XH}  {k6 : XH → Int32 → Int32 → Int32 → Int32 → Int32 → Option (Int32 × XH)} {k20 : XH → Int32 → Int32 → Int32 → Int32 → Int32 → Int32 → Option (Int32 × XH)} (C : x_C p s m args meth c O cX12_heldBy 7 RX12 (some .int)) (hk6 : ∀ (ls : Array Slot) (H : Heap) (locs : List Loc) (h : XH) (v1 : Int32) (v2 : Int32) (v3 : Int32) (v4 : Int32) (v5 : Int32), lv_has ls 7 [(0, .ref (oX O + 64)), (1, .int v1), (2, .int v2), (3, .int v3), (4, .int v4), (5, .int v5)] → x_R O K h H → va_S (oA O) s.heap H locs → k6 h v1 v2 v3 v4 v5 = some (r, h') → W p l e (x_rm 7 171) s m args below meth c H locs 0 0 (MQ below (x_Qc O K h' (some (.int r))) args s 0 0 (oA O)) (F0 m 6 ls [])) (hk20 : ∀ (ls : Array Slot) (H : Heap) (locs : List Loc) (h : XH) (v1 : Int32) (v2 : Int32) (v3 : Int32) (v4 : Int32) (v5 : Int32) (v6 : Int32), lv_has ls 7 [(0, .ref (oX O + 64)), (1, .int v1), (2, .int v2), (3, .int v3), (4, .int v4), (5, .int v5), (6, .int v6)] → x_R O K h H → va_S (oA O) s.heap H locs → k20 h v1 v2 v3 v4 v5 v6 = some (r, h') → W p l e (x_rm 7 171) s m args below meth c H locs 0 0 (MQ below (x_Qc O K h' (some (.int r))) args s 0 0 (oA O)) (F0 m 20 ls []))  (ls : Array Slot) (H : Heap) (locs : List Loc) (h : XH) (v1 : Int32) (v2 : Int32) (v3 : Int32) (v4 : Int32) (v5 : Int32) (v6 : Int32) (hl : lv_has ls 7 [(0, .ref (oX O + 64)), (1, .int v1), (2, .int v2), (3, .int v3), (4, .int v4), (5, .int v5), (6, .int v6)]) (hR : x_R O K h H) (hS : va_S (oA O) s.heap H locs) (hf : f_X12_heldBy_65 k6 k20 (oX O) h v1 v2 v3 v4 v5 v6 = some (r, h')) : W p l e (x_rm 7 171) s m args below meth c H locs 0 0 (MQ below (x_Qc O K h' (some (.int r))) args s 0 0 (oA O)) (F0 m 65 ls []) := by
  have hx := C.1
  have hb := C.2.1
  rw [f_X12_heldBy_65] at hf
  refine lv_iload hx hb dX12_heldBy_65 (lv_at hl 4 rfl) ?_
  refine lv_aload_n hx hb dX12_heldBy_67 rfl (lv_at hl 0 rfl) ?_
  refine lv_iload_n hx hb dX12_heldBy_68 rfl (lv_at hl 1 rfl) ?_
  refine lv_iload hx hb dX12_heldBy_69 (lv_at hl 5 rfl) ?_
  refine lv_iload hx hb dX12_heldBy_71 (lv_at hl 6 rfl) ?_
  obtain ⟨q5, eq5, hf⟩ := x_bd hf
  refine x_cVi3 C hR hS (S_X12_heldOf  eq5) (x_k hR 64 rfl) (by decide) rfl mf_X12_heldOf tw_1885 (Nat.le_of_ble_eq_true rfl) (Nat.le_of_ble_eq_true rfl) hl.1 (Nat.le_of_ble_eq_true rfl) dX12_heldBy_73 ⟨Nat.le_refl _, Nat.le_refl _⟩ (fun H locs hR hS => ?_)
  refine lv_iadd hx hb dX12_heldBy_76 ?_
  refine lv_istore (lv' := [(4, _), (0, _), (1, _), (2, _), (3, _), (5, _), (6, _)]) hx hb dX12_heldBy_77 hl (Nat.le_of_ble_eq_true rfl) rfl (fun ls hl => ?_)
  exact B_X12_heldBy_79  C hk6 hk20  ls _ _ q5.2 _ _ _ _ _ _  (lv_sub hl [1, 2, 3, 4, 0, 5, 6] rfl) hR hS hf
set_option maxRecDepth 20000 in
theorem B_X12_heldBy_20 {p : Program} {l : Launch} {e : Env} {s : State} {m : MethodId} {args : Array Value} {below : List Frame} {meth : Method} {c : Code} {O : XO} {K : XK} {r : Int32} {h' : XH}  {k6 : XH → Int32 → Int32 → Int32 → Int32 → Int32 → Option (Int32 × XH)} (C : x_C p s m args meth c O cX12_heldBy 7 RX12 (some .int)) (hk6 : ∀ (ls : Array Slot) (H : Heap) (locs : List Loc) (h : XH) (v1 : Int32) (v2 : Int32) (v3 : Int32) (v4 : Int32) (v5 : Int32), lv_has ls 7 [(0, .ref (oX O + 64)), (1, .int v1), (2, .int v2), (3, .int v3), (4, .int v4), (5, .int v5)] → x_R O K h H → va_S (oA O) s.heap H locs → k6 h v1 v2 v3 v4 v5 = some (r, h') → W p l e (x_rm 7 171) s m args below meth c H locs 0 0 (MQ below (x_Qc O K h' (some (.int r))) args s 0 0 (oA O)) (F0 m 6 ls []))  : ∀ (n : Nat) (ls : Array Slot) (H : Heap) (locs : List Loc) (h : XH) (v1 : Int32) (v2 : Int32) (v3 : Int32) (v4 : Int32) (v5 : Int32) (v6 : Int32) (hl : lv_has ls 7 [(0, .ref (oX O + 64)), (1, .int v1), (2, .int v2), (3, .int v3), (4, .int v4), (5, .int v5), (6, .int v6)]) (hR : x_R O K h H) (hS : va_S (oA O) s.heap H locs) (hf : f_X12_heldBy_20 k6 (oX O) n h v1 v2 v3 v4 v5 v6 = some (r, h')), W p l e (x_rm 7 171) s m args below meth c H locs 0 0 (MQ below (x_Qc O K h' (some (.int r))) args s 0 0 (oA O)) (F0 m 20 ls []) := by
  have hx := C.1
  have hb := C.2.1
  intro n
  induction n with
  | zero =>
    intro ls H locs h v1 v2 v3 v4 v5 v6 hl hR hS hf
    rw [f_X12_heldBy_20] at hf
    cases hf
  | succ n ih =>
    intro ls H locs h v1 v2 v3 v4 v5 v6 hl hR hS hf
    rw [f_X12_heldBy_20] at hf
    refine lv_iload hx hb dX12_heldBy_20 (lv_at hl 6 rfl) ?_
    refine lv_aload_n hx hb dX12_heldBy_22 rfl (lv_at hl 0 rfl) ?_
    refine lv_iload hx hb dX12_heldBy_23 (lv_at hl 5 rfl) ?_
    refine lv_iconst (v := 2) hx hb dX12_heldBy_25 rfl ?_
    obtain ⟨v_2, ev_2, hf⟩ := x_bd hf
    refine x_cVi2 C hR hS (S_X12_of  ev_2) (x_k hR 64 rfl) (by decide) rfl mf_X12_of tw_1806 (Nat.le_of_ble_eq_true rfl) (Nat.le_of_ble_eq_true rfl) hl.1 (Nat.le_of_ble_eq_true rfl) dX12_heldBy_26 ⟨Nat.le_refl _, Nat.le_refl _⟩ (fun H locs hR hS => ?_)
    refine lv_icmp_ge (tgt := 85) hx hb dX12_heldBy_29 rfl (fun hc => ?_) (fun hc => ?_)
    · have hf := x_ip hc hf
      exact B_X12_heldBy_85  C hk6  ls _ _ h _ _ _ _ _  (lv_sub hl [0, 1, 2, 3, 4, 5] rfl) hR hS hf
    · have hf := x_in hc hf
      refine lv_aload_n hx hb dX12_heldBy_32 rfl (lv_at hl 0 rfl) ?_
      refine lv_iload hx hb dX12_heldBy_33 (lv_at hl 5 rfl) ?_
      obtain ⟨v_3, ev_3, hf⟩ := x_bd hf
      refine x_cVi1 C hR hS (S_X12_isPut  ev_3) (x_k hR 64 rfl) (by decide) rfl mf_X12_isPut tw_1818 (Nat.le_of_ble_eq_true rfl) (Nat.le_of_ble_eq_true rfl) hl.1 (Nat.le_of_ble_eq_true rfl) dX12_heldBy_35 ⟨Nat.le_refl _, Nat.le_refl _⟩ (fun H locs hR hS => ?_)
      refine lv_if_eq (tgt := 85) hx hb dX12_heldBy_38 rfl (fun hc => ?_) (fun hc => ?_)
      · have hf := x_ip hc hf
        exact B_X12_heldBy_85  C hk6  ls _ _ h _ _ _ _ _  (lv_sub hl [0, 1, 2, 3, 4, 5] rfl) hR hS hf
      · have hf := x_in hc hf
        refine lv_aload_n hx hb dX12_heldBy_41 rfl (lv_at hl 0 rfl) ?_
        refine lv_iload hx hb dX12_heldBy_42 (lv_at hl 5 rfl) ?_
        refine lv_iload hx hb dX12_heldBy_44 (lv_at hl 6 rfl) ?_
        obtain ⟨v_4, ev_4, hf⟩ := x_bd hf
        refine x_cVi2 C hR hS (S_X12_cardOf  ev_4) (x_k hR 64 rfl) (by decide) rfl mf_X12_cardOf tw_1810 (Nat.le_of_ble_eq_true rfl) (Nat.le_of_ble_eq_true rfl) hl.1 (Nat.le_of_ble_eq_true rfl) dX12_heldBy_46 ⟨Nat.le_refl _, Nat.le_refl _⟩ (fun H locs hR hS => ?_)
        refine lv_iload_n hx hb dX12_heldBy_49 rfl (lv_at hl 2 rfl) ?_
        refine lv_icmp_eq (tgt := 65) hx hb dX12_heldBy_50 rfl (fun hc => ?_) (fun hc => ?_)
        · have hf := x_ip hc hf
          exact B_X12_heldBy_65  C hk6 ih  ls _ _ h _ _ _ _ _ _  (lv_sub hl [0, 1, 2, 3, 4, 5, 6] rfl) hR hS hf
        · have hf := x_in hc hf
          refine lv_aload_n hx hb dX12_heldBy_53 rfl (lv_at hl 0 rfl) ?_
          refine lv_iload hx hb dX12_heldBy_54 (lv_at hl 5 rfl) ?_
          refine lv_iload hx hb dX12_heldBy_56 (lv_at hl 6 rfl) ?_
          obtain ⟨v_6, ev_6, hf⟩ := x_bd hf
          refine x_cVi2 C hR hS (S_X12_cardOf  ev_6) (x_k hR 64 rfl) (by decide) rfl mf_X12_cardOf tw_1810 (Nat.le_of_ble_eq_true rfl) (Nat.le_of_ble_eq_true rfl) hl.1 (Nat.le_of_ble_eq_true rfl) dX12_heldBy_58 ⟨Nat.le_refl _, Nat.le_refl _⟩ (fun H locs hR hS => ?_)
          refine lv_iload_n hx hb dX12_heldBy_61 rfl (lv_at hl 3 rfl) ?_
          refine lv_icmp_ne (tgt := 79) hx hb dX12_heldBy_62 rfl (fun hc => ?_) (fun hc => ?_)
          · have hf := x_in hc hf
            exact B_X12_heldBy_79  C hk6 ih  ls _ _ h _ _ _ _ _ _  (lv_sub hl [0, 1, 2, 3, 4, 5, 6] rfl) hR hS hf
          · have hf := x_ip hc hf
            exact B_X12_heldBy_65  C hk6 ih  ls _ _ h _ _ _ _ _ _  (lv_sub hl [0, 1, 2, 3, 4, 5, 6] rfl) hR hS hf
set_option maxRecDepth 20000 in
theorem B_X12_heldBy_6 {p : Program} {l : Launch} {e : Env} {s : State} {m : MethodId} {args : Array Value} {below : List Frame} {meth : Method} {c : Code} {O : XO} {K : XK} {r : Int32} {h' : XH}   (C : x_C p s m args meth c O cX12_heldBy 7 RX12 (some .int))   : ∀ (n : Nat) (ls : Array Slot) (H : Heap) (locs : List Loc) (h : XH) (v1 : Int32) (v2 : Int32) (v3 : Int32) (v4 : Int32) (v5 : Int32) (hl : lv_has ls 7 [(0, .ref (oX O + 64)), (1, .int v1), (2, .int v2), (3, .int v3), (4, .int v4), (5, .int v5)]) (hR : x_R O K h H) (hS : va_S (oA O) s.heap H locs) (hf : f_X12_heldBy_6 (oX O) n h v1 v2 v3 v4 v5 = some (r, h')), W p l e (x_rm 7 171) s m args below meth c H locs 0 0 (MQ below (x_Qc O K h' (some (.int r))) args s 0 0 (oA O)) (F0 m 6 ls []) := by
  have hx := C.1
  have hb := C.2.1
  intro n
  induction n with
  | zero =>
    intro ls H locs h v1 v2 v3 v4 v5 hl hR hS hf
    rw [f_X12_heldBy_6] at hf
    cases hf
  | succ n ih =>
    intro ls H locs h v1 v2 v3 v4 v5 hl hR hS hf
    rw [f_X12_heldBy_6] at hf
    refine lv_iload hx hb dX12_heldBy_6 (lv_at hl 5 rfl) ?_
    refine lv_aload_n hx hb dX12_heldBy_8 rfl (lv_at hl 0 rfl) ?_
    refine gf_12_1 C hR (x_k hR 64 rfl) tw_1544 dX12_heldBy_9 ?_
    refine lv_iconst (v := 1) hx hb dX12_heldBy_12 rfl ?_
    obtain ⟨g1, hf⟩ := x_gd hf
    refine x_iald C hR (x_k1 (x_k hR 65 rfl)) (x_k2 (x_k hR 65 rfl) g1) dX12_heldBy_13 ?_
    refine lv_icmp_ge (tgt := 91) hx hb dX12_heldBy_14 rfl (fun hc => ?_) (fun hc => ?_)
    · have hf := x_ip hc hf
      refine lv_iload hx hb dX12_heldBy_91 (lv_at hl 4 rfl) ?_
      cases hf
      exact x_iret C hR hS dX12_heldBy_93
    · have hf := x_in hc hf
      refine lv_iconst (v := 0) hx hb dX12_heldBy_17 rfl ?_
      refine lv_istore (lv' := [(6, _), (0, _), (1, _), (2, _), (3, _), (4, _), (5, _)]) hx hb dX12_heldBy_18 hl (Nat.le_of_ble_eq_true rfl) rfl (fun ls hl => ?_)
      exact B_X12_heldBy_20  C ih x_FU ls _ _ h _ _ _ _ _ _  (lv_sub hl [1, 2, 3, 4, 5, 6, 0] rfl) hR hS hf
set_option maxRecDepth 20000 in
theorem S_X12_heldBy {l : Launch} {O : XO} {K : XK} {h : XH} {v1 : Int32} {v2 : Int32} {v3 : Int32}  {r : Int32} {h' : XH}  (hf : f_X12_heldBy (oX O) h v1 v2 v3 = some (r, h')) : x_M l O K yX12_heldBy cX12_heldBy 7 (some .int) 7 171 h [.ref (oX O + 64), .int v1, .int v2, .int v3] (some (.int r)) h' := by
  refine x_enter (by decide) (Nat.le_of_ble_eq_true rfl) (fun p e s m args below meth c C hR ls hl => ?_)
  have hS : va_S (oA O) s.heap s.heap [] := va_S.rf
  have hx := C.1
  have hb := C.2.1
  have hl : lv_has ls 7 [(0, .ref (oX O + 64)), (1, .int v1), (2, .int v2), (3, .int v3)] := hl
  rw [f_X12_heldBy] at hf
  refine lv_iconst (v := 0) hx hb dX12_heldBy_0 rfl ?_
  refine lv_istore (lv' := [(4, _), (0, _), (1, _), (2, _), (3, _)]) hx hb dX12_heldBy_1 hl (Nat.le_of_ble_eq_true rfl) rfl (fun ls hl => ?_)
  refine lv_iconst (v := 0) hx hb dX12_heldBy_3 rfl ?_
  refine lv_istore (lv' := [(5, _), (4, _), (0, _), (1, _), (2, _), (3, _)]) hx hb dX12_heldBy_4 hl (Nat.le_of_ble_eq_true rfl) rfl (fun ls hl => ?_)
  exact B_X12_heldBy_6  C  x_FU ls _ _ h _ _ _ _ _  (lv_sub hl [2, 3, 4, 5, 1, 0] rfl) hR hS hf
def f_X12_change_40 (k27 : XH → Int32 → Int32 → Int32 → Int32 → Option (Int32 × XH)) (x : Nat) : Nat → XH → Int32 → Int32 → Int32 → Int32 → Int32 → Option (Int32 × XH)
  | 0, _, _, _, _, _, _ => none
  | n + 1, h, v1, v2, v3, v4, v5 => if 52 ≤ v5 then k27 h v1 v2 v3 (v4 + 1) else Option.bind (f_X12_heldBy x h v1 v4 v5) (fun q4 => Option.bind (f_X12_exchanges x q4.2 v4 v5) (fun h5 => Option.bind (f_X12_heldBy x h5 v1 v4 v5) (fun q6 => Option.bind (f_X12_exchanges x q6.2 v4 v5) (fun h7 => f_X12_change_40 k27 x n h7 v1 (if v3 < (q6.1 - q4.1) then ((52 * v4) + v5) else v2) (if v3 < (q6.1 - q4.1) then (q6.1 - q4.1) else v3) v4 (v5 + 1)))))
def f_X12_change_27 (x : Nat) : Nat → XH → Int32 → Int32 → Int32 → Int32 → Option (Int32 × XH)
  | 0, _, _, _, _, _ => none
  | n + 1, h, v1, v2, v3, v4 => if 52 ≤ v4 then some (v2, h) else f_X12_change_40 (f_X12_change_27 x n) x x_FU h v1 v2 v3 v4 (v4 + 1)
def f_X12_change (x : Nat) (h : XH) (v1 : Int32) : Option (Int32 × XH) := x_let (x_i h (x + 64) 0 0) (fun h1 => Option.bind (f_X12_noLaw x h1 v1) (fun v_2 => Option.bind (f_X12_throwsIf x h1 v_2 1) (fun q3 => if q3.1 = 0 then f_X12_change_27 x x_FU q3.2 v1 (-1) 0 0 else some (0, q3.2))))
set_option maxRecDepth 20000 in
theorem B_X12_change_40 {p : Program} {l : Launch} {e : Env} {s : State} {m : MethodId} {args : Array Value} {below : List Frame} {meth : Method} {c : Code} {O : XO} {K : XK} {r : Int32} {h' : XH}  {k27 : XH → Int32 → Int32 → Int32 → Int32 → Option (Int32 × XH)} (C : x_C p s m args meth c O cX12_change 8 RX12 (some .int)) (hk27 : ∀ (ls : Array Slot) (H : Heap) (locs : List Loc) (h : XH) (v1 : Int32) (v2 : Int32) (v3 : Int32) (v4 : Int32), lv_has ls 8 [(0, .ref (oX O + 64)), (1, .int v1), (2, .int v2), (3, .int v3), (4, .int v4)] → x_R O K h H → va_S (oA O) s.heap H locs → k27 h v1 v2 v3 v4 = some (r, h') → W p l e (x_rm 8 197) s m args below meth c H locs 0 0 (MQ below (x_Qc O K h' (some (.int r))) args s 0 0 (oA O)) (F0 m 27 ls []))  : ∀ (n : Nat) (ls : Array Slot) (H : Heap) (locs : List Loc) (h : XH) (v1 : Int32) (v2 : Int32) (v3 : Int32) (v4 : Int32) (v5 : Int32) (hl : lv_has ls 8 [(0, .ref (oX O + 64)), (1, .int v1), (2, .int v2), (3, .int v3), (4, .int v4), (5, .int v5)]) (hR : x_R O K h H) (hS : va_S (oA O) s.heap H locs) (hf : f_X12_change_40 k27 (oX O) n h v1 v2 v3 v4 v5 = some (r, h')), W p l e (x_rm 8 197) s m args below meth c H locs 0 0 (MQ below (x_Qc O K h' (some (.int r))) args s 0 0 (oA O)) (F0 m 40 ls []) := by
  have hx := C.1
  have hb := C.2.1
  intro n
  induction n with
  | zero =>
    intro ls H locs h v1 v2 v3 v4 v5 hl hR hS hf
    rw [f_X12_change_40] at hf
    cases hf
  | succ n ih =>
    intro ls H locs h v1 v2 v3 v4 v5 hl hR hS hf
    rw [f_X12_change_40] at hf
    refine lv_iload hx hb dX12_change_40 (lv_at hl 5 rfl) ?_
    refine lv_bipush (v := 52) hx hb dX12_change_42 rfl ?_
    refine lv_icmp_ge (tgt := 118) hx hb dX12_change_44 rfl (fun hc => ?_) (fun hc => ?_)
    · have hf := x_ip hc hf
      refine lv_iinc (k := 4) (v := _ + 1) (lv' := [(4, _), (0, _), (1, _), (2, _), (3, _), (5, _)]) hx hb dX12_change_118 hl rfl (x_inc 1 1 rfl _) (Nat.le_of_ble_eq_true rfl) rfl (fun ls hl => ?_)
      refine lv_goto (tgt := 27) hx hb dX12_change_121 rfl ?_
      exact hk27 ls _ _ h _ _ _ _  (lv_sub hl [1, 2, 3, 4, 0] rfl) hR hS hf
    · have hf := x_in hc hf
      refine lv_aload_n hx hb dX12_change_47 rfl (lv_at hl 0 rfl) ?_
      refine lv_iload_n hx hb dX12_change_48 rfl (lv_at hl 1 rfl) ?_
      refine lv_iload hx hb dX12_change_49 (lv_at hl 4 rfl) ?_
      refine lv_iload hx hb dX12_change_51 (lv_at hl 5 rfl) ?_
      obtain ⟨q4, eq4, hf⟩ := x_bd hf
      refine x_cVi3 C hR hS (S_X12_heldBy  eq4) (x_k hR 64 rfl) (by decide) rfl mf_X12_heldBy tw_2094 (Nat.le_of_ble_eq_true rfl) (Nat.le_of_ble_eq_true rfl) hl.1 (Nat.le_of_ble_eq_true rfl) dX12_change_53 ⟨Nat.le_refl _, Nat.le_refl _⟩ (fun H locs hR hS => ?_)
      refine lv_istore (lv' := [(6, _), (0, _), (1, _), (2, _), (3, _), (4, _), (5, _)]) hx hb dX12_change_56 hl (Nat.le_of_ble_eq_true rfl) rfl (fun ls hl => ?_)
      refine lv_aload_n hx hb dX12_change_58 rfl (lv_at hl 1 rfl) ?_
      refine lv_iload hx hb dX12_change_59 (lv_at hl 5 rfl) ?_
      refine lv_iload hx hb dX12_change_61 (lv_at hl 6 rfl) ?_
      obtain ⟨h5, eh5, hf⟩ := x_bd hf
      refine x_cVv2 C hR hS (S_X12_exchanges  eh5) (x_k hR 64 rfl) (by decide) rfl mf_X12_exchanges tw_2098 (Nat.le_of_ble_eq_true rfl) (Nat.le_of_ble_eq_true rfl) hl.1 (Nat.le_of_ble_eq_true rfl) dX12_change_63 ⟨Nat.le_refl _, Nat.le_refl _⟩ (fun H locs hR hS => ?_)
      refine lv_aload_n hx hb dX12_change_66 rfl (lv_at hl 1 rfl) ?_
      refine lv_iload_n hx hb dX12_change_67 rfl (lv_at hl 2 rfl) ?_
      refine lv_iload hx hb dX12_change_68 (lv_at hl 5 rfl) ?_
      refine lv_iload hx hb dX12_change_70 (lv_at hl 6 rfl) ?_
      obtain ⟨q6, eq6, hf⟩ := x_bd hf
      refine x_cVi3 C hR hS (S_X12_heldBy  eq6) (x_k hR 64 rfl) (by decide) rfl mf_X12_heldBy tw_2094 (Nat.le_of_ble_eq_true rfl) (Nat.le_of_ble_eq_true rfl) hl.1 (Nat.le_of_ble_eq_true rfl) dX12_change_72 ⟨Nat.le_refl _, Nat.le_refl _⟩ (fun H locs hR hS => ?_)
      refine lv_istore (lv' := [(7, _), (6, _), (0, _), (1, _), (2, _), (3, _), (4, _), (5, _)]) hx hb dX12_change_75 hl (Nat.le_of_ble_eq_true rfl) rfl (fun ls hl => ?_)
      refine lv_aload_n hx hb dX12_change_77 rfl (lv_at hl 2 rfl) ?_
      refine lv_iload hx hb dX12_change_78 (lv_at hl 6 rfl) ?_
      refine lv_iload hx hb dX12_change_80 (lv_at hl 7 rfl) ?_
      obtain ⟨h7, eh7, hf⟩ := x_bd hf
      refine x_cVv2 C hR hS (S_X12_exchanges  eh7) (x_k hR 64 rfl) (by decide) rfl mf_X12_exchanges tw_2098 (Nat.le_of_ble_eq_true rfl) (Nat.le_of_ble_eq_true rfl) hl.1 (Nat.le_of_ble_eq_true rfl) dX12_change_82 ⟨Nat.le_refl _, Nat.le_refl _⟩ (fun H locs hR hS => ?_)
      refine lv_iload hx hb dX12_change_85 (lv_at hl 0 rfl) ?_
      refine lv_iload hx hb dX12_change_87 (lv_at hl 1 rfl) ?_
      refine lv_isub hx hb dX12_change_89 ?_
      refine lv_iload_n hx hb dX12_change_90 rfl (lv_at hl 5 rfl) ?_
      have kM8 : ∀ (ls : Array Slot) (H : Heap) (locs : List Loc), lv_has ls 8 [(0, .ref (oX O + 64)), (1, .int v1), (2, .int (if v3 < (q6.1 - q4.1) then ((52 * v4) + v5) else v2)), (3, .int (if v3 < (q6.1 - q4.1) then (q6.1 - q4.1) else v3)), (4, .int v4), (5, .int v5)] → x_R O K h7 H → va_S (oA O) s.heap H locs → W p l e (x_rm 8 197) s m args below meth c H locs 0 0 (MQ below (x_Qc O K h' (some (.int r))) args s 0 0 (oA O)) (F0 m 112 ls []) := by
        intro ls H locs hl hR hS
        refine lv_iinc (k := 5) (v := _ + 1) (lv' := [(5, _), (0, _), (1, _), (2, _), (3, _), (4, _)]) hx hb dX12_change_112 hl rfl (x_inc 1 1 rfl _) (Nat.le_of_ble_eq_true rfl) rfl (fun ls hl => ?_)
        refine lv_goto (tgt := 40) hx hb dX12_change_115 rfl ?_
        exact ih ls _ _ h7 _ _ _ _ _  (lv_sub hl [1, 2, 3, 4, 5, 0] rfl) hR hS hf
      refine lv_icmp_gt (tgt := 97) hx hb dX12_change_91 rfl (fun hc => ?_) (fun hc => ?_)
      · try simp only [if_pos hc] at kM8
        refine lv_bipush (v := 52) hx hb dX12_change_97 rfl ?_
        refine lv_iload hx hb dX12_change_99 (lv_at hl 6 rfl) ?_
        refine lv_imul hx hb dX12_change_101 ?_
        refine lv_iload hx hb dX12_change_102 (lv_at hl 7 rfl) ?_
        refine lv_iadd hx hb dX12_change_104 ?_
        refine lv_istore_n (lv' := [(2, _), (7, _), (6, _), (0, _), (1, _), (3, _), (4, _), (5, _)]) hx hb dX12_change_105 rfl hl (Nat.le_of_ble_eq_true rfl) rfl (fun ls hl => ?_)
        refine lv_iload hx hb dX12_change_106 (lv_at hl 1 rfl) ?_
        refine lv_iload hx hb dX12_change_108 (lv_at hl 2 rfl) ?_
        refine lv_isub hx hb dX12_change_110 ?_
        refine lv_istore_n (lv' := [(3, _), (2, _), (7, _), (6, _), (0, _), (1, _), (4, _), (5, _)]) hx hb dX12_change_111 rfl hl (Nat.le_of_ble_eq_true rfl) rfl (fun ls hl => ?_)
        exact kM8 ls _ _ (lv_sub hl [4, 5, 1, 0, 6, 7] rfl) hR hS
      · try simp only [if_neg hc] at kM8
        refine lv_goto (tgt := 112) hx hb dX12_change_94 rfl ?_
        exact kM8 ls _ _ (lv_sub hl [2, 3, 4, 5, 6, 7] rfl) hR hS
set_option maxRecDepth 20000 in
theorem B_X12_change_27 {p : Program} {l : Launch} {e : Env} {s : State} {m : MethodId} {args : Array Value} {below : List Frame} {meth : Method} {c : Code} {O : XO} {K : XK} {r : Int32} {h' : XH}   (C : x_C p s m args meth c O cX12_change 8 RX12 (some .int))   : ∀ (n : Nat) (ls : Array Slot) (H : Heap) (locs : List Loc) (h : XH) (v1 : Int32) (v2 : Int32) (v3 : Int32) (v4 : Int32) (hl : lv_has ls 8 [(0, .ref (oX O + 64)), (1, .int v1), (2, .int v2), (3, .int v3), (4, .int v4)]) (hR : x_R O K h H) (hS : va_S (oA O) s.heap H locs) (hf : f_X12_change_27 (oX O) n h v1 v2 v3 v4 = some (r, h')), W p l e (x_rm 8 197) s m args below meth c H locs 0 0 (MQ below (x_Qc O K h' (some (.int r))) args s 0 0 (oA O)) (F0 m 27 ls []) := by
  have hx := C.1
  have hb := C.2.1
  intro n
  induction n with
  | zero =>
    intro ls H locs h v1 v2 v3 v4 hl hR hS hf
    rw [f_X12_change_27] at hf
    cases hf
  | succ n ih =>
    intro ls H locs h v1 v2 v3 v4 hl hR hS hf
    rw [f_X12_change_27] at hf
    refine lv_iload hx hb dX12_change_27 (lv_at hl 4 rfl) ?_
    refine lv_bipush (v := 52) hx hb dX12_change_29 rfl ?_
    refine lv_icmp_ge (tgt := 124) hx hb dX12_change_31 rfl (fun hc => ?_) (fun hc => ?_)
    · have hf := x_ip hc hf
      refine lv_iload_n hx hb dX12_change_124 rfl (lv_at hl 2 rfl) ?_
      cases hf
      exact x_iret C hR hS dX12_change_125
    · have hf := x_in hc hf
      refine lv_iload hx hb dX12_change_34 (lv_at hl 4 rfl) ?_
      refine lv_iconst (v := 1) hx hb dX12_change_36 rfl ?_
      refine lv_iadd hx hb dX12_change_37 ?_
      refine lv_istore (lv' := [(5, _), (0, _), (1, _), (2, _), (3, _), (4, _)]) hx hb dX12_change_38 hl (Nat.le_of_ble_eq_true rfl) rfl (fun ls hl => ?_)
      exact B_X12_change_40  C ih x_FU ls _ _ h _ _ _ _ _  (lv_sub hl [1, 2, 3, 4, 5, 0] rfl) hR hS hf
set_option maxRecDepth 20000 in
theorem S_X12_change {l : Launch} {O : XO} {K : XK} {h : XH} {v1 : Int32}  {r : Int32} {h' : XH}  (hf : f_X12_change (oX O) h v1 = some (r, h')) : x_M l O K yX12_change cX12_change 8 (some .int) 8 197 h [.ref (oX O + 64), .int v1] (some (.int r)) h' := by
  refine x_enter (by decide) (Nat.le_of_ble_eq_true rfl) (fun p e s m args below meth c C hR ls hl => ?_)
  have hS : va_S (oA O) s.heap s.heap [] := va_S.rf
  have hx := C.1
  have hb := C.2.1
  have hl : lv_has ls 8 [(0, .ref (oX O + 64)), (1, .int v1)] := hl
  rw [f_X12_change] at hf
  refine lv_aload_n hx hb dX12_change_0 rfl (lv_at hl 0 rfl) ?_
  refine lv_iconst (v := 0) hx hb dX12_change_1 rfl ?_
  obtain ⟨h1, eh1, hf⟩ := x_lt hf
  refine pf_12_0 C hR hS (x_k hR 64 rfl) tw_1543 dX12_change_2 (fun H locs hR hS => ?_)
  rw [← eh1] at hR
  refine lv_aload_n hx hb dX12_change_5 rfl (lv_at hl 0 rfl) ?_
  refine lv_aload_n hx hb dX12_change_6 rfl (lv_at hl 0 rfl) ?_
  refine lv_iload_n hx hb dX12_change_7 rfl (lv_at hl 1 rfl) ?_
  obtain ⟨v_2, ev_2, hf⟩ := x_bd hf
  refine x_cVi1 C hR hS (S_X12_noLaw  ev_2) (x_k hR 64 rfl) (by decide) rfl mf_X12_noLaw tw_1881 (Nat.le_of_ble_eq_true rfl) (Nat.le_of_ble_eq_true rfl) hl.1 (Nat.le_of_ble_eq_true rfl) dX12_change_8 ⟨Nat.le_refl _, Nat.le_refl _⟩ (fun H locs hR hS => ?_)
  refine lv_iconst (v := 1) hx hb dX12_change_11 rfl ?_
  obtain ⟨q3, eq3, hf⟩ := x_bd hf
  refine x_cVi2 C hR hS (S_X12_throwsIf  eq3) (x_k hR 64 rfl) (by decide) rfl mf_X12_throwsIf tw_1741 (Nat.le_of_ble_eq_true rfl) (Nat.le_of_ble_eq_true rfl) hl.1 (Nat.le_of_ble_eq_true rfl) dX12_change_12 ⟨Nat.le_refl _, Nat.le_refl _⟩ (fun H locs hR hS => ?_)
  refine lv_if_eq (tgt := 20) hx hb dX12_change_15 rfl (fun hc => ?_) (fun hc => ?_)
  · have hf := x_ip hc hf
    refine lv_iconst (v := (-1)) hx hb dX12_change_20 rfl ?_
    refine lv_istore_n (lv' := [(2, _), (0, _), (1, _)]) hx hb dX12_change_21 rfl hl (Nat.le_of_ble_eq_true rfl) rfl (fun ls hl => ?_)
    refine lv_iconst (v := 0) hx hb dX12_change_22 rfl ?_
    refine lv_istore_n (lv' := [(3, _), (2, _), (0, _), (1, _)]) hx hb dX12_change_23 rfl hl (Nat.le_of_ble_eq_true rfl) rfl (fun ls hl => ?_)
    refine lv_iconst (v := 0) hx hb dX12_change_24 rfl ?_
    refine lv_istore (lv' := [(4, _), (3, _), (2, _), (0, _), (1, _)]) hx hb dX12_change_25 hl (Nat.le_of_ble_eq_true rfl) rfl (fun ls hl => ?_)
    exact B_X12_change_27  C  x_FU ls _ _ q3.2 _ _ _ _  (lv_sub hl [3, 4, 2, 1, 0] rfl) hR hS hf
  · have hf := x_in hc hf
    refine lv_iconst (v := 0) hx hb dX12_change_18 rfl ?_
    cases hf
    exact x_iret C hR hS dX12_change_19
def f_X0_mostMissed_59 (k8 : XH → Int32 → Int32 → Option (Int32 × XH)) (K : XK) (x : Nat) (h : XH) (v1 : Int32) (v2 : Int32) : Option (Int32 × XH) := k8 h v1 (v2 + 1)
def f_X0_mostMissed_57 (k8 : XH → Int32 → Int32 → Option (Int32 × XH)) (K : XK) (x : Nat) (h : XH) (v2 : Int32) : Option (Int32 × XH) := f_X0_mostMissed_59 k8 K x h v2 v2
def f_X0_mostMissed_8 (K : XK) (x : Nat) : Nat → XH → Int32 → Int32 → Option (Int32 × XH)
  | 0, _, _, _ => none
  | n + 1, h, v1, v2 => if 52 ≤ v2 then some (v1, h) else if x_b v2 52 = true then if (h.1 (x + 61) v2.toNatClampNeg) ≤ 0 then f_X0_mostMissed_59 (f_X0_mostMissed_8 K x n) K x h v1 v2 else if v1 = (-1) then f_X0_mostMissed_57 (f_X0_mostMissed_8 K x n) K x h v2 else if x_b v2 52 = true then if x_b v1 52 = true then if x_b v1 52 = true then if x_b v2 52 = true then f_X0_mostMissed_59 (f_X0_mostMissed_8 K x n) K x h (if ((h.1 (x + 61) v2.toNatClampNeg) * (h.1 (x + 60) v1.toNatClampNeg)) ≤ ((h.1 (x + 61) v1.toNatClampNeg) * (h.1 (x + 60) v2.toNatClampNeg)) then v1 else v2) v2 else none else none else none else none else none
def f_X0_mostMissed (K : XK) (x : Nat) (h : XH) : Option (Int32 × XH) := Option.bind (f_X0_countMissed K x h) (fun h1 => f_X0_mostMissed_8 K x x_FU h1 (-1) 0)
set_option maxRecDepth 20000 in
theorem B_X0_mostMissed_59 {p : Program} {l : Launch} {e : Env} {s : State} {m : MethodId} {args : Array Value} {below : List Frame} {meth : Method} {c : Code} {O : XO} {K : XK} {r : Int32} {h' : XH}  {k8 : XH → Int32 → Int32 → Option (Int32 × XH)} (C : x_C p s m args meth c O cX0_mostMissed 3 RX0 (some .int)) (hk8 : ∀ (ls : Array Slot) (H : Heap) (locs : List Loc) (h : XH) (v1 : Int32) (v2 : Int32), lv_has ls 3 [(0, .ref (oX O + 59)), (1, .int v1), (2, .int v2)] → x_R O K h H → va_S (oA O) s.heap H locs → k8 h v1 v2 = some (r, h') → W p l e (x_rm 2 47) s m args below meth c H locs 0 0 (MQ below (x_Qc O K h' (some (.int r))) args s 0 0 (oA O)) (F0 m 8 ls []))  (ls : Array Slot) (H : Heap) (locs : List Loc) (h : XH) (v1 : Int32) (v2 : Int32) (hl : lv_has ls 3 [(0, .ref (oX O + 59)), (1, .int v1), (2, .int v2)]) (hR : x_R O K h H) (hS : va_S (oA O) s.heap H locs) (hf : f_X0_mostMissed_59 k8 K (oX O) h v1 v2 = some (r, h')) : W p l e (x_rm 2 47) s m args below meth c H locs 0 0 (MQ below (x_Qc O K h' (some (.int r))) args s 0 0 (oA O)) (F0 m 59 ls []) := by
  have hx := C.1
  have hb := C.2.1
  rw [f_X0_mostMissed_59] at hf
  refine lv_iinc (k := 2) (v := _ + 1) (lv' := [(2, _), (0, _), (1, _)]) hx hb dX0_mostMissed_59 hl rfl (x_inc 1 1 rfl _) (Nat.le_of_ble_eq_true rfl) rfl (fun ls hl => ?_)
  refine lv_goto (tgt := 8) hx hb dX0_mostMissed_62 rfl ?_
  exact hk8 ls _ _ h _ _  (lv_sub hl [1, 2, 0] rfl) hR hS hf
set_option maxRecDepth 20000 in
theorem B_X0_mostMissed_57 {p : Program} {l : Launch} {e : Env} {s : State} {m : MethodId} {args : Array Value} {below : List Frame} {meth : Method} {c : Code} {O : XO} {K : XK} {r : Int32} {h' : XH}  {k8 : XH → Int32 → Int32 → Option (Int32 × XH)} (C : x_C p s m args meth c O cX0_mostMissed 3 RX0 (some .int)) (hk8 : ∀ (ls : Array Slot) (H : Heap) (locs : List Loc) (h : XH) (v1 : Int32) (v2 : Int32), lv_has ls 3 [(0, .ref (oX O + 59)), (1, .int v1), (2, .int v2)] → x_R O K h H → va_S (oA O) s.heap H locs → k8 h v1 v2 = some (r, h') → W p l e (x_rm 2 47) s m args below meth c H locs 0 0 (MQ below (x_Qc O K h' (some (.int r))) args s 0 0 (oA O)) (F0 m 8 ls []))  (ls : Array Slot) (H : Heap) (locs : List Loc) (h : XH) (v2 : Int32) (hl : lv_has ls 3 [(0, .ref (oX O + 59)), (2, .int v2)]) (hR : x_R O K h H) (hS : va_S (oA O) s.heap H locs) (hf : f_X0_mostMissed_57 k8 K (oX O) h v2 = some (r, h')) : W p l e (x_rm 2 47) s m args below meth c H locs 0 0 (MQ below (x_Qc O K h' (some (.int r))) args s 0 0 (oA O)) (F0 m 57 ls []) := by
  have hx := C.1
  have hb := C.2.1
  rw [f_X0_mostMissed_57] at hf
  refine lv_iload_n hx hb dX0_mostMissed_57 rfl (lv_at hl 1 rfl) ?_
  refine lv_istore_n (lv' := [(1, _), (0, _), (2, _)]) hx hb dX0_mostMissed_58 rfl hl (Nat.le_of_ble_eq_true rfl) rfl (fun ls hl => ?_)
  exact B_X0_mostMissed_59  C hk8  ls _ _ h _ _  (lv_sub hl [1, 0, 2] rfl) hR hS hf
set_option maxRecDepth 20000 in
theorem B_X0_mostMissed_8 {p : Program} {l : Launch} {e : Env} {s : State} {m : MethodId} {args : Array Value} {below : List Frame} {meth : Method} {c : Code} {O : XO} {K : XK} {r : Int32} {h' : XH}   (C : x_C p s m args meth c O cX0_mostMissed 3 RX0 (some .int))   : ∀ (n : Nat) (ls : Array Slot) (H : Heap) (locs : List Loc) (h : XH) (v1 : Int32) (v2 : Int32) (hl : lv_has ls 3 [(0, .ref (oX O + 59)), (1, .int v1), (2, .int v2)]) (hR : x_R O K h H) (hS : va_S (oA O) s.heap H locs) (hf : f_X0_mostMissed_8 K (oX O) n h v1 v2 = some (r, h')), W p l e (x_rm 2 47) s m args below meth c H locs 0 0 (MQ below (x_Qc O K h' (some (.int r))) args s 0 0 (oA O)) (F0 m 8 ls []) := by
  have hx := C.1
  have hb := C.2.1
  intro n
  induction n with
  | zero =>
    intro ls H locs h v1 v2 hl hR hS hf
    rw [f_X0_mostMissed_8] at hf
    cases hf
  | succ n ih =>
    intro ls H locs h v1 v2 hl hR hS hf
    rw [f_X0_mostMissed_8] at hf
    refine lv_iload_n hx hb dX0_mostMissed_8 rfl (lv_at hl 2 rfl) ?_
    refine lv_bipush (v := 52) hx hb dX0_mostMissed_9 rfl ?_
    refine lv_icmp_ge (tgt := 65) hx hb dX0_mostMissed_11 rfl (fun hc => ?_) (fun hc => ?_)
    · have hf := x_ip hc hf
      refine lv_iload_n hx hb dX0_mostMissed_65 rfl (lv_at hl 1 rfl) ?_
      cases hf
      exact x_iret C hR hS dX0_mostMissed_66
    · have hf := x_in hc hf
      refine lv_aload_n hx hb dX0_mostMissed_14 rfl (lv_at hl 0 rfl) ?_
      refine gf_0_3 C hR (x_k hR 59 rfl) tw_479 dX0_mostMissed_15 ?_
      refine lv_iload_n hx hb dX0_mostMissed_18 rfl (lv_at hl 2 rfl) ?_
      obtain ⟨g2, hf⟩ := x_gd hf
      refine x_iald C hR (x_k1 (x_k hR 61 rfl)) (x_k2 (x_k hR 61 rfl) g2) dX0_mostMissed_19 ?_
      refine lv_if_le (tgt := 59) hx hb dX0_mostMissed_20 rfl (fun hc => ?_) (fun hc => ?_)
      · have hf := x_ip hc hf
        exact B_X0_mostMissed_59  C ih  ls _ _ h _ _  (lv_sub hl [0, 1, 2] rfl) hR hS hf
      · have hf := x_in hc hf
        refine lv_iload_n hx hb dX0_mostMissed_23 rfl (lv_at hl 1 rfl) ?_
        refine lv_iconst (v := (-1)) hx hb dX0_mostMissed_24 rfl ?_
        refine lv_icmp_eq (tgt := 57) hx hb dX0_mostMissed_25 rfl (fun hc => ?_) (fun hc => ?_)
        · have hf := x_ip hc hf
          exact B_X0_mostMissed_57  C ih  ls _ _ h _  (lv_sub hl [0, 2] rfl) hR hS hf
        · have hf := x_in hc hf
          refine lv_aload_n hx hb dX0_mostMissed_28 rfl (lv_at hl 0 rfl) ?_
          refine gf_0_3 C hR (x_k hR 59 rfl) tw_479 dX0_mostMissed_29 ?_
          refine lv_iload_n hx hb dX0_mostMissed_32 rfl (lv_at hl 2 rfl) ?_
          obtain ⟨g3, hf⟩ := x_gd hf
          refine x_iald C hR (x_k1 (x_k hR 61 rfl)) (x_k2 (x_k hR 61 rfl) g3) dX0_mostMissed_33 ?_
          refine lv_aload_n hx hb dX0_mostMissed_34 rfl (lv_at hl 0 rfl) ?_
          refine gf_0_2 C hR (x_k hR 59 rfl) tw_478 dX0_mostMissed_35 ?_
          refine lv_iload_n hx hb dX0_mostMissed_38 rfl (lv_at hl 1 rfl) ?_
          obtain ⟨g4, hf⟩ := x_gd hf
          refine x_iald C hR (x_k1 (x_k hR 60 rfl)) (x_k2 (x_k hR 60 rfl) g4) dX0_mostMissed_39 ?_
          refine lv_imul hx hb dX0_mostMissed_40 ?_
          refine lv_aload_n hx hb dX0_mostMissed_41 rfl (lv_at hl 0 rfl) ?_
          refine gf_0_3 C hR (x_k hR 59 rfl) tw_479 dX0_mostMissed_42 ?_
          refine lv_iload_n hx hb dX0_mostMissed_45 rfl (lv_at hl 1 rfl) ?_
          obtain ⟨g5, hf⟩ := x_gd hf
          refine x_iald C hR (x_k1 (x_k hR 61 rfl)) (x_k2 (x_k hR 61 rfl) g5) dX0_mostMissed_46 ?_
          refine lv_aload_n hx hb dX0_mostMissed_47 rfl (lv_at hl 0 rfl) ?_
          refine gf_0_2 C hR (x_k hR 59 rfl) tw_478 dX0_mostMissed_48 ?_
          refine lv_iload_n hx hb dX0_mostMissed_51 rfl (lv_at hl 2 rfl) ?_
          obtain ⟨g6, hf⟩ := x_gd hf
          refine x_iald C hR (x_k1 (x_k hR 60 rfl)) (x_k2 (x_k hR 60 rfl) g6) dX0_mostMissed_52 ?_
          refine lv_imul hx hb dX0_mostMissed_53 ?_
          have kM7 : ∀ (ls : Array Slot) (H : Heap) (locs : List Loc), lv_has ls 3 [(0, .ref (oX O + 59)), (1, .int (if ((h.1 (oX O + 61) v2.toNatClampNeg) * (h.1 (oX O + 60) v1.toNatClampNeg)) ≤ ((h.1 (oX O + 61) v1.toNatClampNeg) * (h.1 (oX O + 60) v2.toNatClampNeg)) then v1 else v2)), (2, .int v2)] → x_R O K h H → va_S (oA O) s.heap H locs → W p l e (x_rm 2 47) s m args below meth c H locs 0 0 (MQ below (x_Qc O K h' (some (.int r))) args s 0 0 (oA O)) (F0 m 59 ls []) := by
            intro ls H locs hl hR hS
            exact B_X0_mostMissed_59  C ih  ls _ _ h _ _  (lv_sub hl [0, 1, 2] rfl) hR hS hf
          refine lv_icmp_le (tgt := 59) hx hb dX0_mostMissed_54 rfl (fun hc => ?_) (fun hc => ?_)
          · try simp only [if_pos hc] at kM7
            exact kM7 ls _ _ (lv_sub hl [0, 1, 2] rfl) hR hS
          · try simp only [if_neg hc] at kM7
            refine lv_iload_n hx hb dX0_mostMissed_57 rfl (lv_at hl 2 rfl) ?_
            refine lv_istore_n (lv' := [(1, _), (0, _), (2, _)]) hx hb dX0_mostMissed_58 rfl hl (Nat.le_of_ble_eq_true rfl) rfl (fun ls hl => ?_)
            exact kM7 ls _ _ (lv_sub hl [1, 0, 2] rfl) hR hS
set_option maxRecDepth 20000 in
theorem S_X0_mostMissed {l : Launch} {O : XO} {K : XK} {h : XH}  {r : Int32} {h' : XH}  (hf : f_X0_mostMissed K (oX O) h = some (r, h')) : x_M l O K yX0_mostMissed cX0_mostMissed 3 (some .int) 2 47 h [.ref (oX O + 59)] (some (.int r)) h' := by
  refine x_enter (by decide) (Nat.le_of_ble_eq_true rfl) (fun p e s m args below meth c C hR ls hl => ?_)
  have hS : va_S (oA O) s.heap s.heap [] := va_S.rf
  have hx := C.1
  have hb := C.2.1
  have hl : lv_has ls 3 [(0, .ref (oX O + 59))] := hl
  rw [f_X0_mostMissed] at hf
  refine lv_aload_n hx hb dX0_mostMissed_0 rfl (lv_at hl 0 rfl) ?_
  obtain ⟨h1, eh1, hf⟩ := x_bd hf
  refine x_cVv0 C hR hS (S_X0_countMissed  eh1) (x_k hR 59 rfl) (by decide) rfl mf_X0_countMissed tw_567 (Nat.le_of_ble_eq_true rfl) (Nat.le_of_ble_eq_true rfl) hl.1 (Nat.le_of_ble_eq_true rfl) dX0_mostMissed_1 ⟨Nat.le_refl _, Nat.le_refl _⟩ (fun H locs hR hS => ?_)
  refine lv_iconst (v := (-1)) hx hb dX0_mostMissed_4 rfl ?_
  refine lv_istore_n (lv' := [(1, _), (0, _)]) hx hb dX0_mostMissed_5 rfl hl (Nat.le_of_ble_eq_true rfl) rfl (fun ls hl => ?_)
  refine lv_iconst (v := 0) hx hb dX0_mostMissed_6 rfl ?_
  refine lv_istore_n (lv' := [(2, _), (1, _), (0, _)]) hx hb dX0_mostMissed_7 rfl hl (Nat.le_of_ble_eq_true rfl) rfl (fun ls hl => ?_)
  exact B_X0_mostMissed_8  C  x_FU ls _ _ h1 _ _  (lv_sub hl [2, 1, 0] rfl) hR hS hf
def f_X1_takeIfBetter_103 (K : XK) (x : Nat) (h : XH) (v3 : Int32) (v4 : Int64) (v6 : Int64) : Option (XH) := x_let (x_i h (x + 51) 3 v3) (fun h3 => x_let (x_l h3 (x + 51) 4 v4) (fun h4 => x_let (x_l h4 (x + 51) 5 v6) (fun h5 => some h5)))
def f_X1_takeIfBetter_21 (K : XK) (x : Nat) : Nat → XH → Option Nat → Nat → Int32 → Int64 → Int64 → Int32 → Int32 → Int32 → Option (XH)
  | 0, _, _, _, _, _, _, _, _, _ => none
  | n + 1, h, v1, v2, v3, v4, v6, v8, v9, v10 => if v3 < v10 then if v3 = 0 then f_X1_takeIfBetter_103 K x h v3 v4 v6 else if (lg_cmp (v4 * (h.2.1 (x + 51) 5)) ((h.2.1 (x + 51) 4) * v6)) ≤ 0 then some h else f_X1_takeIfBetter_103 K x h v3 v4 v6 else if x_b v10 6 = true then Option.bind (f_X9_scoreOf K x h v1 (v8 + v10) (v9 - v3) (h.1 v2 2)) (fun q7 => x_let ((v4 + ((h.1 (x + 53) v10.toNatClampNeg).toInt64 * q7.1)) : Int64) (fun t8 => if x_b v10 6 = true then x_let ((v6 + (q7.2.1 (x + 53) v10.toNatClampNeg).toInt64) : Int64) (fun t10 => f_X1_takeIfBetter_21 K x n q7.2 v1 v2 v3 t8 t10 v8 v9 (v10 + 1)) else none)) else none
def f_X1_takeIfBetter (K : XK) (x : Nat) (h : XH) (v1 : Option Nat) (v2 : Nat) (v3 : Int32) : Option (XH) := Option.bind (f_X2_rightOnes v2 h) (fun v_1 => Option.bind (f_X2_blanks v2 h) (fun v_2 => f_X1_takeIfBetter_21 K x x_FU h v1 v2 v3 0 0 v_1 v_2 0))
set_option maxRecDepth 20000 in
theorem B_X1_takeIfBetter_103 {p : Program} {l : Launch} {e : Env} {s : State} {m : MethodId} {args : Array Value} {below : List Frame} {meth : Method} {c : Code} {O : XO} {K : XK} {h' : XH}   (C : x_C p s m args meth c O cX1_takeIfBetter 11 RX1 none)   (ls : Array Slot) (H : Heap) (locs : List Loc) (h : XH) (v3 : Int32) (v4 : Int64) (v6 : Int64) (hl : lv_has ls 11 [(0, .ref (oX O + 51)), (3, .int v3), (4, .long v4), (6, .long v6)]) (hR : x_R O K h H) (hS : va_S (oA O) s.heap H locs) (hf : f_X1_takeIfBetter_103 K (oX O) h v3 v4 v6 = some h') : W p l e (x_rm 3 79) s m args below meth c H locs 0 0 (MQ below (x_Qc O K h' none) args s 0 0 (oA O)) (F0 m 103 ls []) := by
  have hx := C.1
  have hb := C.2.1
  rw [f_X1_takeIfBetter_103] at hf
  refine lv_aload_n hx hb dX1_takeIfBetter_103 rfl (lv_at hl 0 rfl) ?_
  refine lv_iload_n hx hb dX1_takeIfBetter_104 rfl (lv_at hl 1 rfl) ?_
  obtain ⟨h3, eh3, hf⟩ := x_lt hf
  refine pf_1_3 C hR hS (x_k hR 51 rfl) tw_425 dX1_takeIfBetter_105 (fun H locs hR hS => ?_)
  rw [← eh3] at hR
  refine lv_aload_n hx hb dX1_takeIfBetter_108 rfl (lv_at hl 0 rfl) ?_
  refine lv_lload hx hb dX1_takeIfBetter_109 (lv_at hl 2 rfl) ?_
  obtain ⟨h4, eh4, hf⟩ := x_lt hf
  refine pf_1_4 C hR hS (x_k hR 51 rfl) tw_427 dX1_takeIfBetter_111 (fun H locs hR hS => ?_)
  rw [← eh4] at hR
  refine lv_aload_n hx hb dX1_takeIfBetter_114 rfl (lv_at hl 0 rfl) ?_
  refine lv_lload hx hb dX1_takeIfBetter_115 (lv_at hl 3 rfl) ?_
  obtain ⟨h5, eh5, hf⟩ := x_lt hf
  refine pf_1_5 C hR hS (x_k hR 51 rfl) tw_429 dX1_takeIfBetter_117 (fun H locs hR hS => ?_)
  rw [← eh5] at hR
  cases hf
  exact x_vret C hR hS dX1_takeIfBetter_120
set_option maxRecDepth 20000 in
theorem B_X1_takeIfBetter_21 {p : Program} {l : Launch} {e : Env} {s : State} {m : MethodId} {args : Array Value} {below : List Frame} {meth : Method} {c : Code} {O : XO} {K : XK} {h' : XH}   (C : x_C p s m args meth c O cX1_takeIfBetter 11 RX1 none)   : ∀ (n : Nat) (ls : Array Slot) (H : Heap) (locs : List Loc) (h : XH) (v1 : Option Nat) (v2 : Nat) (v3 : Int32) (v4 : Int64) (v6 : Int64) (v8 : Int32) (v9 : Int32) (v10 : Int32) (kv1 : ∀ r, v1 = some r → K r = (11, 0)) (kv2 : K v2 = (3, 0)) (hl : lv_has ls 11 [(0, .ref (oX O + 51)), (1, va_rf v1), (2, .ref v2), (3, .int v3), (4, .long v4), (6, .long v6), (8, .int v8), (9, .int v9), (10, .int v10)]) (hR : x_R O K h H) (hS : va_S (oA O) s.heap H locs) (hf : f_X1_takeIfBetter_21 K (oX O) n h v1 v2 v3 v4 v6 v8 v9 v10 = some h'), W p l e (x_rm 3 79) s m args below meth c H locs 0 0 (MQ below (x_Qc O K h' none) args s 0 0 (oA O)) (F0 m 21 ls []) := by
  have hx := C.1
  have hb := C.2.1
  intro n
  induction n with
  | zero =>
    intro ls H locs h v1 v2 v3 v4 v6 v8 v9 v10 kv1 kv2 hl hR hS hf
    rw [f_X1_takeIfBetter_21] at hf
    cases hf
  | succ n ih =>
    intro ls H locs h v1 v2 v3 v4 v6 v8 v9 v10 kv1 kv2 hl hR hS hf
    rw [f_X1_takeIfBetter_21] at hf
    refine lv_iload hx hb dX1_takeIfBetter_21 (lv_at hl 8 rfl) ?_
    refine lv_iload_n hx hb dX1_takeIfBetter_23 rfl (lv_at hl 3 rfl) ?_
    refine lv_icmp_gt (tgt := 81) hx hb dX1_takeIfBetter_24 rfl (fun hc => ?_) (fun hc => ?_)
    · have hf := x_ip hc hf
      refine lv_iload_n hx hb dX1_takeIfBetter_81 rfl (lv_at hl 3 rfl) ?_
      refine lv_if_eq (tgt := 103) hx hb dX1_takeIfBetter_82 rfl (fun hc => ?_) (fun hc => ?_)
      · have hf := x_ip hc hf
        exact B_X1_takeIfBetter_103  C   ls _ _ h _ _ _  (lv_sub hl [0, 3, 4, 5] rfl) hR hS hf
      · have hf := x_in hc hf
        refine lv_lload hx hb dX1_takeIfBetter_85 (lv_at hl 4 rfl) ?_
        refine lv_aload_n hx hb dX1_takeIfBetter_87 rfl (lv_at hl 0 rfl) ?_
        refine gf_1_5 C hR (x_k hR 51 rfl) tw_429 dX1_takeIfBetter_88 ?_
        refine lv_lmul hx hb dX1_takeIfBetter_91 ?_
        refine lv_aload_n hx hb dX1_takeIfBetter_92 rfl (lv_at hl 0 rfl) ?_
        refine gf_1_4 C hR (x_k hR 51 rfl) tw_427 dX1_takeIfBetter_93 ?_
        refine lv_lload hx hb dX1_takeIfBetter_96 (lv_at hl 5 rfl) ?_
        refine lv_lmul hx hb dX1_takeIfBetter_98 ?_
        refine W.lcmp hx hb dX1_takeIfBetter_99 ?_
        refine lv_if_le (tgt := 120) hx hb dX1_takeIfBetter_100 rfl (fun hc => ?_) (fun hc => ?_)
        · have hf := x_ip hc hf
          cases hf
          exact x_vret C hR hS dX1_takeIfBetter_120
        · have hf := x_in hc hf
          exact B_X1_takeIfBetter_103  C   ls _ _ h _ _ _  (lv_sub hl [0, 3, 4, 5] rfl) hR hS hf
    · have hf := x_in hc hf
      refine lv_lload hx hb dX1_takeIfBetter_27 (lv_at hl 4 rfl) ?_
      refine lv_aload_n hx hb dX1_takeIfBetter_29 rfl (lv_at hl 0 rfl) ?_
      refine gf_1_2 C hR (x_k hR 51 rfl) tw_424 dX1_takeIfBetter_30 ?_
      refine lv_iload hx hb dX1_takeIfBetter_33 (lv_at hl 8 rfl) ?_
      obtain ⟨g6, hf⟩ := x_gd hf
      refine x_iald C hR (x_k1 (x_k hR 53 rfl)) (x_k2 (x_k hR 53 rfl) g6) dX1_takeIfBetter_35 ?_
      refine lv_i2l hx hb dX1_takeIfBetter_36 rfl ?_
      refine lv_aload_n hx hb dX1_takeIfBetter_37 rfl (lv_at hl 0 rfl) ?_
      refine gf_1_0 C hR (x_k hR 51 rfl) tw_422 dX1_takeIfBetter_38 ?_
      refine x_aloadq_n hx hb dX1_takeIfBetter_41 rfl (lv_at hl 1 rfl) ?_
      refine lv_iload hx hb dX1_takeIfBetter_42 (lv_at hl 6 rfl) ?_
      refine lv_iload hx hb dX1_takeIfBetter_44 (lv_at hl 8 rfl) ?_
      refine lv_iadd hx hb dX1_takeIfBetter_46 ?_
      refine lv_iload hx hb dX1_takeIfBetter_47 (lv_at hl 7 rfl) ?_
      refine lv_iload_n hx hb dX1_takeIfBetter_49 rfl (lv_at hl 3 rfl) ?_
      refine lv_isub hx hb dX1_takeIfBetter_50 ?_
      refine lv_aload_n hx hb dX1_takeIfBetter_51 rfl (lv_at hl 2 rfl) ?_
      refine gf_2_2 C hR kv2 tw_253 dX1_takeIfBetter_52 ?_
      obtain ⟨q7, eq7, hf⟩ := x_bd hf
      refine x_cVl4 C hR hS (S_X9_scoreOf kv1 eq7) (x_k hR 43 rfl) (by decide) rfl mf_X9_scoreOf tw_1340 (Nat.le_of_ble_eq_true rfl) (Nat.le_of_ble_eq_true rfl) hl.1 (Nat.le_of_ble_eq_true rfl) dX1_takeIfBetter_55 ⟨Nat.le_refl _, Nat.le_refl _⟩ (fun H locs hR hS => ?_)
      refine lv_lmul hx hb dX1_takeIfBetter_58 ?_
      refine lv_ladd hx hb dX1_takeIfBetter_59 ?_
      obtain ⟨t8, et8, hf⟩ := x_lt hf
      refine x_nml et8 ?_
      refine lv_lstore (lv' := [(4, _), (0, _), (1, _), (2, _), (3, _), (6, _), (8, _), (9, _), (10, _)]) hx hb dX1_takeIfBetter_60 hl (Nat.le_of_ble_eq_true rfl) rfl (fun ls hl => ?_)
      refine lv_lload hx hb dX1_takeIfBetter_62 (lv_at hl 5 rfl) ?_
      refine lv_aload_n hx hb dX1_takeIfBetter_64 rfl (lv_at hl 1 rfl) ?_
      refine gf_1_2 C hR (x_k hR 51 rfl) tw_424 dX1_takeIfBetter_65 ?_
      refine lv_iload hx hb dX1_takeIfBetter_68 (lv_at hl 8 rfl) ?_
      obtain ⟨g9, hf⟩ := x_gd hf
      refine x_iald C hR (x_k1 (x_k hR 53 rfl)) (x_k2 (x_k hR 53 rfl) g9) dX1_takeIfBetter_70 ?_
      refine lv_i2l hx hb dX1_takeIfBetter_71 rfl ?_
      refine lv_ladd hx hb dX1_takeIfBetter_72 ?_
      obtain ⟨t10, et10, hf⟩ := x_lt hf
      refine x_nml et10 ?_
      refine lv_lstore (lv' := [(6, _), (4, _), (0, _), (1, _), (2, _), (3, _), (8, _), (9, _), (10, _)]) hx hb dX1_takeIfBetter_73 hl (Nat.le_of_ble_eq_true rfl) rfl (fun ls hl => ?_)
      refine lv_iinc (k := 8) (v := _ + 1) (lv' := [(10, _), (6, _), (4, _), (0, _), (1, _), (2, _), (3, _), (8, _), (9, _)]) hx hb dX1_takeIfBetter_75 hl rfl (x_inc 1 1 rfl _) (Nat.le_of_ble_eq_true rfl) rfl (fun ls hl => ?_)
      refine lv_goto (tgt := 21) hx hb dX1_takeIfBetter_78 rfl ?_
      exact ih ls _ _ q7.2 _ _ _ _ _ _ _ _ kv1 kv2 (lv_sub hl [3, 4, 5, 6, 2, 1, 7, 8, 0] rfl) hR hS hf
set_option maxRecDepth 20000 in
theorem S_X1_takeIfBetter {l : Launch} {O : XO} {K : XK} {h : XH} {v1 : Option Nat} {v2 : Nat} {v3 : Int32}  {h' : XH} (k1 : ∀ r, v1 = some r → K r = (11, 0)) (k2 : K v2 = (3, 0)) (hf : f_X1_takeIfBetter K (oX O) h v1 v2 v3 = some h') : x_M l O K yX1_takeIfBetter cX1_takeIfBetter 11 none 3 79 h [.ref (oX O + 51), va_rf v1, .ref v2, .int v3] none h' := by
  refine x_enter (by decide) (by cases v1 <;> exact Nat.le_of_ble_eq_true rfl) (fun p e s m args below meth c C hR ls hl => ?_)
  have hS : va_S (oA O) s.heap s.heap [] := va_S.rf
  have hx := C.1
  have hb := C.2.1
  have hl : lv_has ls 11 [(0, .ref (oX O + 51)), (1, va_rf v1), (2, .ref v2), (3, .int v3)] := by cases v1 <;> exact hl
  rw [f_X1_takeIfBetter] at hf
  refine lv_lconst (v := 0) hx hb dX1_takeIfBetter_0 rfl ?_
  refine lv_lstore (lv' := [(4, _), (0, _), (1, _), (2, _), (3, _)]) hx hb dX1_takeIfBetter_1 hl (Nat.le_of_ble_eq_true rfl) rfl (fun ls hl => ?_)
  refine lv_lconst (v := 0) hx hb dX1_takeIfBetter_3 rfl ?_
  refine lv_lstore (lv' := [(6, _), (4, _), (0, _), (1, _), (2, _), (3, _)]) hx hb dX1_takeIfBetter_4 hl (Nat.le_of_ble_eq_true rfl) rfl (fun ls hl => ?_)
  refine lv_aload_n hx hb dX1_takeIfBetter_6 rfl (lv_at hl 4 rfl) ?_
  obtain ⟨v_1, ev_1, hf⟩ := x_bd hf
  refine x_cVi0 C hR hS (S_X2_rightOnes k2 ev_1) k2 (by decide) rfl mf_X2_rightOnes tw_1339 (Nat.le_of_ble_eq_true rfl) (Nat.le_of_ble_eq_true rfl) hl.1 (Nat.le_of_ble_eq_true rfl) dX1_takeIfBetter_7 ⟨Nat.le_refl _, Nat.le_refl _⟩ (fun H locs hR hS => ?_)
  refine lv_istore (lv' := [(8, _), (6, _), (4, _), (0, _), (1, _), (2, _), (3, _)]) hx hb dX1_takeIfBetter_10 hl (Nat.le_of_ble_eq_true rfl) rfl (fun ls hl => ?_)
  refine lv_aload_n hx hb dX1_takeIfBetter_12 rfl (lv_at hl 5 rfl) ?_
  obtain ⟨v_2, ev_2, hf⟩ := x_bd hf
  refine x_cVi0 C hR hS (S_X2_blanks k2 ev_2) k2 (by decide) rfl mf_X2_blanks tw_1323 (Nat.le_of_ble_eq_true rfl) (Nat.le_of_ble_eq_true rfl) hl.1 (Nat.le_of_ble_eq_true rfl) dX1_takeIfBetter_13 ⟨Nat.le_refl _, Nat.le_refl _⟩ (fun H locs hR hS => ?_)
  refine lv_istore (lv' := [(9, _), (8, _), (6, _), (4, _), (0, _), (1, _), (2, _), (3, _)]) hx hb dX1_takeIfBetter_16 hl (Nat.le_of_ble_eq_true rfl) rfl (fun ls hl => ?_)
  refine lv_iconst (v := 0) hx hb dX1_takeIfBetter_18 rfl ?_
  refine lv_istore (lv' := [(10, _), (9, _), (8, _), (6, _), (4, _), (0, _), (1, _), (2, _), (3, _)]) hx hb dX1_takeIfBetter_19 hl (Nat.le_of_ble_eq_true rfl) rfl (fun ls hl => ?_)
  exact B_X1_takeIfBetter_21  C  x_FU ls _ _ h _ _ _ _ _ _ _ _ k1 k2 (lv_sub hl [5, 6, 7, 8, 4, 3, 2, 1, 0] rfl) hR hS hf
def f_X5_heldByTurns (K : XK) (x : Nat) (h : XH) (v1 : Option Nat) (v2 : Int32) (v3 : Int32) : Option (Int32 × XH) := Option.bind (f_J7_fill_53178 K h (x + 44) 0) (fun h1 => if x_b 2 10 = true then x_let (x_i h1 (x + 44) (2 : Int32).toNatClampNeg v2) (fun h3 => if x_b 0 10 = true then x_let (x_i h3 (x + 44) (0 : Int32).toNatClampNeg v3) (fun h5 => if x_b 6 10 = true then x_let (x_i h5 (x + 44) (6 : Int32).toNatClampNeg 3) (fun h7 => Option.bind (f_X9_heldBy K x h7 v1) (fun q8 => some (q8.1, q8.2))) else none) else none) else none)
set_option maxRecDepth 20000 in
theorem S_X5_heldByTurns {l : Launch} {O : XO} {K : XK} {h : XH} {v1 : Option Nat} {v2 : Int32} {v3 : Int32}  {r : Int32} {h' : XH} (k1 : ∀ r, v1 = some r → K r = (11, 0)) (hf : f_X5_heldByTurns K (oX O) h v1 v2 v3 = some (r, h')) : x_M l O K yX5_heldByTurns cX5_heldByTurns 4 (some .int) 3 78 h [.ref (oX O + 46), va_rf v1, .int v2, .int v3] (some (.int r)) h' := by
  refine x_enter (by decide) (by cases v1 <;> exact Nat.le_of_ble_eq_true rfl) (fun p e s m args below meth c C hR ls hl => ?_)
  have hS : va_S (oA O) s.heap s.heap [] := va_S.rf
  have hx := C.1
  have hb := C.2.1
  have hl : lv_has ls 4 [(0, .ref (oX O + 46)), (1, va_rf v1), (2, .int v2), (3, .int v3)] := by cases v1 <;> exact hl
  rw [f_X5_heldByTurns] at hf
  refine lv_aload_n hx hb dX5_heldByTurns_0 rfl (lv_at hl 0 rfl) ?_
  refine gf_5_1 C hR (x_k hR 46 rfl) tw_391 dX5_heldByTurns_1 ?_
  refine gf_9_0 C hR (x_k hR 43 rfl) tw_375 dX5_heldByTurns_4 ?_
  refine lv_iconst (v := 0) hx hb dX5_heldByTurns_7 rfl ?_
  obtain ⟨h1, eh1, hf⟩ := x_bd hf
  refine x_cSv2 C hR hS (S_J7_fill_53178 (x_k1 (x_k hR 44 rfl)) eh1) mf_J7_fill_53178 tw_1367 (Nat.le_of_ble_eq_true rfl) (Nat.le_of_ble_eq_true rfl) hl.1 (Nat.le_of_ble_eq_true rfl) dX5_heldByTurns_8 ⟨Nat.le_refl _, Nat.le_refl _⟩ (fun H locs hR hS => ?_)
  refine lv_aload_n hx hb dX5_heldByTurns_11 rfl (lv_at hl 0 rfl) ?_
  refine gf_5_1 C hR (x_k hR 46 rfl) tw_391 dX5_heldByTurns_12 ?_
  refine gf_9_0 C hR (x_k hR 43 rfl) tw_375 dX5_heldByTurns_15 ?_
  refine lv_iconst (v := 2) hx hb dX5_heldByTurns_18 rfl ?_
  refine lv_iload_n hx hb dX5_heldByTurns_19 rfl (lv_at hl 2 rfl) ?_
  obtain ⟨g2, hf⟩ := x_gd hf
  obtain ⟨h3, eh3, hf⟩ := x_lt hf
  refine x_iast C hR hS (x_k1 (x_k hR 44 rfl)) (x_k2 (x_k hR 44 rfl) g2) dX5_heldByTurns_20 (fun H locs hR hS => ?_)
  rw [← eh3] at hR
  refine lv_aload_n hx hb dX5_heldByTurns_21 rfl (lv_at hl 0 rfl) ?_
  refine gf_5_1 C hR (x_k hR 46 rfl) tw_391 dX5_heldByTurns_22 ?_
  refine gf_9_0 C hR (x_k hR 43 rfl) tw_375 dX5_heldByTurns_25 ?_
  refine lv_iconst (v := 0) hx hb dX5_heldByTurns_28 rfl ?_
  refine lv_iload_n hx hb dX5_heldByTurns_29 rfl (lv_at hl 3 rfl) ?_
  obtain ⟨g4, hf⟩ := x_gd hf
  obtain ⟨h5, eh5, hf⟩ := x_lt hf
  refine x_iast C hR hS (x_k1 (x_k hR 44 rfl)) (x_k2 (x_k hR 44 rfl) g4) dX5_heldByTurns_30 (fun H locs hR hS => ?_)
  rw [← eh5] at hR
  refine lv_aload_n hx hb dX5_heldByTurns_31 rfl (lv_at hl 0 rfl) ?_
  refine gf_5_1 C hR (x_k hR 46 rfl) tw_391 dX5_heldByTurns_32 ?_
  refine gf_9_0 C hR (x_k hR 43 rfl) tw_375 dX5_heldByTurns_35 ?_
  refine lv_bipush (v := 6) hx hb dX5_heldByTurns_38 rfl ?_
  refine lv_iconst (v := 3) hx hb dX5_heldByTurns_40 rfl ?_
  obtain ⟨g6, hf⟩ := x_gd hf
  obtain ⟨h7, eh7, hf⟩ := x_lt hf
  refine x_iast C hR hS (x_k1 (x_k hR 44 rfl)) (x_k2 (x_k hR 44 rfl) g6) dX5_heldByTurns_41 (fun H locs hR hS => ?_)
  rw [← eh7] at hR
  refine lv_aload_n hx hb dX5_heldByTurns_42 rfl (lv_at hl 0 rfl) ?_
  refine gf_5_1 C hR (x_k hR 46 rfl) tw_391 dX5_heldByTurns_43 ?_
  refine x_aloadq_n hx hb dX5_heldByTurns_46 rfl (lv_at hl 1 rfl) ?_
  obtain ⟨q8, eq8, hf⟩ := x_bd hf
  refine x_cVi1 C hR hS (S_X9_heldBy k1 eq8) (x_k hR 43 rfl) (by decide) rfl mf_X9_heldBy tw_1125 (Nat.le_of_ble_eq_true rfl) (Nat.le_of_ble_eq_true rfl) hl.1 (Nat.le_of_ble_eq_true rfl) dX5_heldByTurns_47 ⟨Nat.le_refl _, Nat.le_refl _⟩ (fun H locs hR hS => ?_)
  cases hf
  exact x_iret C hR hS dX5_heldByTurns_50
def f_X5_facePlace (x : Nat) (h : XH) (v1 : Int32) (v2 : Nat) (v3 : Int32) (v4 : Int32) : Option (XH) := if x_b v1 8 = true then if x_b 0 10 = true then x_let (x_i h (x + 44) (0 : Int32).toNatClampNeg (h.1 v2 3)) (fun h3 => Option.bind (f_X5_oldAt x h3 v1 v2 ((h3.1 v2 1) + v3)) (fun v_4 => if x_b 2 10 = true then x_let (x_i h3 (x + 44) (2 : Int32).toNatClampNeg v_4) (fun h6 => Option.bind (f_X5_likeAt x h6 ((x + 13) + 6 + 3 * v1.toNatClampNeg) v2 v3) (fun v_7 => if x_b 3 10 = true then x_let (x_i h6 (x + 44) (3 : Int32).toNatClampNeg v_7) (fun h9 => if x_b 4 10 = true then x_let (x_i h9 (x + 44) (4 : Int32).toNatClampNeg (f_X4_ageOf v2 h9 v3 v4)) (fun h11 => if x_b 5 10 = true then x_let (x_i h11 (x + 44) (5 : Int32).toNatClampNeg (h11.1 v2 4)) (fun h13 => if x_b 6 10 = true then x_let (x_i h13 (x + 44) (6 : Int32).toNatClampNeg (h13.1 v2 2)) (fun h15 => if x_b 8 10 = true then x_let (x_i h15 (x + 44) (8 : Int32).toNatClampNeg (if v3 = 0 then 1 else 0)) (fun h18 => Option.bind (f_X2_placesBy ((x + 13) + 6 + 3 * v1.toNatClampNeg) h18 (h18.1 v2 2)) (fun v_19 => if x_b 9 10 = true then x_let (x_i h18 (x + 44) (9 : Int32).toNatClampNeg (if v3 = (v_19 - 1) then 1 else 0)) (fun h22 => some h22) else none)) else none) else none) else none) else none) else none)) else none)) else none else none
set_option maxRecDepth 20000 in
theorem S_X5_facePlace {l : Launch} {O : XO} {K : XK} {h : XH} {v1 : Int32} {v2 : Nat} {v3 : Int32} {v4 : Int32}  {h' : XH} (k2 : K v2 = (5, 0)) (hf : f_X5_facePlace (oX O) h v1 v2 v3 v4 = some h') : x_M l O K yX5_facePlace cX5_facePlace 7 none 3 70 h [.ref (oX O + 46), .int v1, .ref v2, .int v3, .int v4] none h' := by
  refine x_enter (by decide) (Nat.le_of_ble_eq_true rfl) (fun p e s m args below meth c C hR ls hl => ?_)
  have hS : va_S (oA O) s.heap s.heap [] := va_S.rf
  have hx := C.1
  have hb := C.2.1
  have hl : lv_has ls 7 [(0, .ref (oX O + 46)), (1, .int v1), (2, .ref v2), (3, .int v3), (4, .int v4)] := hl
  rw [f_X5_facePlace] at hf
  refine lv_aload_n hx hb dX5_facePlace_0 rfl (lv_at hl 0 rfl) ?_
  refine gf_5_0 C hR (x_k hR 46 rfl) tw_390 dX5_facePlace_1 ?_
  refine gf_7_5 C hR (x_k hR 9 rfl) tw_302 dX5_facePlace_4 ?_
  refine lv_iload_n hx hb dX5_facePlace_7 rfl (lv_at hl 1 rfl) ?_
  obtain ⟨g1, hf⟩ := x_gd hf
  refine x_paald C hR (x_k1 (x_k hR 13 rfl)) (x_k2 (x_k hR 13 rfl) g1) dX5_facePlace_8 ?_
  refine lv_astore (lv' := [(5, _), (0, _), (1, _), (2, _), (3, _), (4, _)]) hx hb dX5_facePlace_9 hl (Nat.le_of_ble_eq_true rfl) rfl (fun ls hl => ?_)
  refine lv_aload_n hx hb dX5_facePlace_11 rfl (lv_at hl 1 rfl) ?_
  refine gf_5_1 C hR (x_k hR 46 rfl) tw_391 dX5_facePlace_12 ?_
  refine gf_9_0 C hR (x_k hR 43 rfl) tw_375 dX5_facePlace_15 ?_
  refine lv_astore (lv' := [(6, _), (5, _), (0, _), (1, _), (2, _), (3, _), (4, _)]) hx hb dX5_facePlace_18 hl (Nat.le_of_ble_eq_true rfl) rfl (fun ls hl => ?_)
  refine lv_aload hx hb dX5_facePlace_20 (lv_at hl 0 rfl) ?_
  refine lv_iconst (v := 0) hx hb dX5_facePlace_22 rfl ?_
  refine lv_aload_n hx hb dX5_facePlace_23 rfl (lv_at hl 4 rfl) ?_
  refine gf_4_3 C hR k2 tw_223 dX5_facePlace_24 ?_
  obtain ⟨g2, hf⟩ := x_gd hf
  obtain ⟨h3, eh3, hf⟩ := x_lt hf
  refine x_iast C hR hS (x_k1 (x_k hR 44 rfl)) (x_k2 (x_k hR 44 rfl) g2) dX5_facePlace_27 (fun H locs hR hS => ?_)
  rw [← eh3] at hR
  refine lv_aload hx hb dX5_facePlace_28 (lv_at hl 0 rfl) ?_
  refine lv_iconst (v := 2) hx hb dX5_facePlace_30 rfl ?_
  refine lv_aload_n hx hb dX5_facePlace_31 rfl (lv_at hl 2 rfl) ?_
  refine lv_iload_n hx hb dX5_facePlace_32 rfl (lv_at hl 3 rfl) ?_
  refine lv_aload_n hx hb dX5_facePlace_33 rfl (lv_at hl 4 rfl) ?_
  refine lv_aload_n hx hb dX5_facePlace_34 rfl (lv_at hl 4 rfl) ?_
  refine gf_4_1 C hR k2 tw_216 dX5_facePlace_35 ?_
  refine lv_iload_n hx hb dX5_facePlace_38 rfl (lv_at hl 5 rfl) ?_
  refine lv_iadd hx hb dX5_facePlace_39 ?_
  obtain ⟨v_4, ev_4, hf⟩ := x_bd hf
  refine x_cVi3 C hR hS (S_X5_oldAt k2 ev_4) (x_k hR 46 rfl) (by decide) rfl mf_X5_oldAt tw_1116 (Nat.le_of_ble_eq_true rfl) (Nat.le_of_ble_eq_true rfl) hl.1 (Nat.le_of_ble_eq_true rfl) dX5_facePlace_40 ⟨Nat.le_refl _, Nat.le_refl _⟩ (fun H locs hR hS => ?_)
  obtain ⟨g5, hf⟩ := x_gd hf
  obtain ⟨h6, eh6, hf⟩ := x_lt hf
  refine x_iast C hR hS (x_k1 (x_k hR 44 rfl)) (x_k2 (x_k hR 44 rfl) g5) dX5_facePlace_43 (fun H locs hR hS => ?_)
  rw [← eh6] at hR
  refine lv_aload hx hb dX5_facePlace_44 (lv_at hl 0 rfl) ?_
  refine lv_iconst (v := 3) hx hb dX5_facePlace_46 rfl ?_
  refine lv_aload_n hx hb dX5_facePlace_47 rfl (lv_at hl 2 rfl) ?_
  refine lv_aload hx hb dX5_facePlace_48 (lv_at hl 1 rfl) ?_
  refine lv_aload_n hx hb dX5_facePlace_50 rfl (lv_at hl 4 rfl) ?_
  refine lv_iload_n hx hb dX5_facePlace_51 rfl (lv_at hl 5 rfl) ?_
  obtain ⟨v_7, ev_7, hf⟩ := x_bd hf
  refine x_cVi3 C hR hS (S_X5_likeAt (x_kP hR (x_k hR 13 rfl) g1) k2 ev_7) (x_k hR 46 rfl) (by decide) rfl mf_X5_likeAt tw_1117 (Nat.le_of_ble_eq_true rfl) (Nat.le_of_ble_eq_true rfl) hl.1 (Nat.le_of_ble_eq_true rfl) dX5_facePlace_52 ⟨Nat.le_refl _, Nat.le_refl _⟩ (fun H locs hR hS => ?_)
  obtain ⟨g8, hf⟩ := x_gd hf
  obtain ⟨h9, eh9, hf⟩ := x_lt hf
  refine x_iast C hR hS (x_k1 (x_k hR 44 rfl)) (x_k2 (x_k hR 44 rfl) g8) dX5_facePlace_55 (fun H locs hR hS => ?_)
  rw [← eh9] at hR
  refine lv_aload hx hb dX5_facePlace_56 (lv_at hl 0 rfl) ?_
  refine lv_iconst (v := 4) hx hb dX5_facePlace_58 rfl ?_
  refine lv_aload_n hx hb dX5_facePlace_59 rfl (lv_at hl 4 rfl) ?_
  refine lv_iload_n hx hb dX5_facePlace_60 rfl (lv_at hl 5 rfl) ?_
  refine lv_iload hx hb dX5_facePlace_61 (lv_at hl 6 rfl) ?_
  refine x_cVi2 C hR hS (S_X4_ageOf k2 rfl) k2 (by decide) rfl mf_X4_ageOf tw_1118 (Nat.le_of_ble_eq_true rfl) (Nat.le_of_ble_eq_true rfl) hl.1 (Nat.le_of_ble_eq_true rfl) dX5_facePlace_63 ⟨Nat.le_refl _, Nat.le_refl _⟩ (fun H locs hR hS => ?_)
  obtain ⟨g10, hf⟩ := x_gd hf
  obtain ⟨h11, eh11, hf⟩ := x_lt hf
  refine x_iast C hR hS (x_k1 (x_k hR 44 rfl)) (x_k2 (x_k hR 44 rfl) g10) dX5_facePlace_66 (fun H locs hR hS => ?_)
  rw [← eh11] at hR
  refine lv_aload hx hb dX5_facePlace_67 (lv_at hl 0 rfl) ?_
  refine lv_iconst (v := 5) hx hb dX5_facePlace_69 rfl ?_
  refine lv_aload_n hx hb dX5_facePlace_70 rfl (lv_at hl 4 rfl) ?_
  refine gf_4_4 C hR k2 tw_225 dX5_facePlace_71 ?_
  obtain ⟨g12, hf⟩ := x_gd hf
  obtain ⟨h13, eh13, hf⟩ := x_lt hf
  refine x_iast C hR hS (x_k1 (x_k hR 44 rfl)) (x_k2 (x_k hR 44 rfl) g12) dX5_facePlace_74 (fun H locs hR hS => ?_)
  rw [← eh13] at hR
  refine lv_aload hx hb dX5_facePlace_75 (lv_at hl 0 rfl) ?_
  refine lv_bipush (v := 6) hx hb dX5_facePlace_77 rfl ?_
  refine lv_aload_n hx hb dX5_facePlace_79 rfl (lv_at hl 4 rfl) ?_
  refine gf_4_2 C hR k2 tw_221 dX5_facePlace_80 ?_
  obtain ⟨g14, hf⟩ := x_gd hf
  obtain ⟨h15, eh15, hf⟩ := x_lt hf
  refine x_iast C hR hS (x_k1 (x_k hR 44 rfl)) (x_k2 (x_k hR 44 rfl) g14) dX5_facePlace_83 (fun H locs hR hS => ?_)
  rw [← eh15] at hR
  refine lv_aload hx hb dX5_facePlace_84 (lv_at hl 0 rfl) ?_
  refine lv_bipush (v := 8) hx hb dX5_facePlace_86 rfl ?_
  refine lv_iload_n hx hb dX5_facePlace_88 rfl (lv_at hl 5 rfl) ?_
  have kM16 : ∀ (ls : Array Slot) (H : Heap) (locs : List Loc), lv_has ls 7 [(2, .ref v2), (3, .int v3), (5, .ref ((oX O + 13) + 6 + 3 * v1.toNatClampNeg)), (6, .ref (oX O + 44))] → x_R O K h15 H → va_S (oA O) s.heap H locs → W p l e (x_rm 3 70) s m args below meth c H locs 0 0 (MQ below (x_Qc O K h' none) args s 0 0 (oA O)) (F0 m 97 ls [.int (if v3 = 0 then 1 else 0), .int 8, .ref (oX O + 44)]) := by
    intro ls H locs hl hR hS
    obtain ⟨g17, hf⟩ := x_gd hf
    obtain ⟨h18, eh18, hf⟩ := x_lt hf
    refine x_iast C hR hS (x_k1 (x_k hR 44 rfl)) (x_k2 (x_k hR 44 rfl) g17) dX5_facePlace_97 (fun H locs hR hS => ?_)
    rw [← eh18] at hR
    refine lv_aload hx hb dX5_facePlace_98 (lv_at hl 3 rfl) ?_
    refine lv_bipush (v := 9) hx hb dX5_facePlace_100 rfl ?_
    refine lv_iload_n hx hb dX5_facePlace_102 rfl (lv_at hl 1 rfl) ?_
    refine lv_aload hx hb dX5_facePlace_103 (lv_at hl 2 rfl) ?_
    refine lv_aload_n hx hb dX5_facePlace_105 rfl (lv_at hl 0 rfl) ?_
    refine gf_4_2 C hR k2 tw_221 dX5_facePlace_106 ?_
    obtain ⟨v_19, ev_19, hf⟩ := x_bd hf
    refine x_cVi1 C hR hS (S_X2_placesBy (x_kP hR (x_k hR 13 rfl) g1) ev_19) (x_kP hR (x_k hR 13 rfl) g1) (by decide) rfl mf_X2_placesBy tw_1078 (Nat.le_of_ble_eq_true rfl) (Nat.le_of_ble_eq_true rfl) hl.1 (Nat.le_of_ble_eq_true rfl) dX5_facePlace_109 ⟨Nat.le_refl _, Nat.le_refl _⟩ (fun H locs hR hS => ?_)
    refine lv_iconst (v := 1) hx hb dX5_facePlace_112 rfl ?_
    refine lv_isub hx hb dX5_facePlace_113 ?_
    have kM20 : ∀ (ls : Array Slot) (H : Heap) (locs : List Loc), lv_has ls 7 [] → x_R O K h18 H → va_S (oA O) s.heap H locs → W p l e (x_rm 3 70) s m args below meth c H locs 0 0 (MQ below (x_Qc O K h' none) args s 0 0 (oA O)) (F0 m 122 ls [.int (if v3 = (v_19 - 1) then 1 else 0), .int 9, .ref (oX O + 44)]) := by
      intro ls H locs hl hR hS
      obtain ⟨g21, hf⟩ := x_gd hf
      obtain ⟨h22, eh22, hf⟩ := x_lt hf
      refine x_iast C hR hS (x_k1 (x_k hR 44 rfl)) (x_k2 (x_k hR 44 rfl) g21) dX5_facePlace_122 (fun H locs hR hS => ?_)
      rw [← eh22] at hR
      cases hf
      exact x_vret C hR hS dX5_facePlace_123
    refine lv_icmp_ne (tgt := 121) hx hb dX5_facePlace_114 rfl (fun hc => ?_) (fun hc => ?_)
    · try simp only [if_neg hc] at kM20
      refine lv_iconst (v := 0) hx hb dX5_facePlace_121 rfl ?_
      exact kM20 ls _ _ (lv_sub hl [] rfl) hR hS
    · try simp only [if_pos hc] at kM20
      refine lv_iconst (v := 1) hx hb dX5_facePlace_117 rfl ?_
      refine lv_goto (tgt := 122) hx hb dX5_facePlace_118 rfl ?_
      exact kM20 ls _ _ (lv_sub hl [] rfl) hR hS
  refine lv_if_ne (tgt := 96) hx hb dX5_facePlace_89 rfl (fun hc => ?_) (fun hc => ?_)
  · try simp only [if_neg hc] at kM16
    refine lv_iconst (v := 0) hx hb dX5_facePlace_96 rfl ?_
    exact kM16 ls _ _ (lv_sub hl [4, 5, 1, 0] rfl) hR hS
  · try simp only [if_pos hc] at kM16
    refine lv_iconst (v := 1) hx hb dX5_facePlace_92 rfl ?_
    refine lv_goto (tgt := 97) hx hb dX5_facePlace_93 rfl ?_
    exact kM16 ls _ _ (lv_sub hl [4, 5, 1, 0] rfl) hR hS
def f_X5_heldWith (K : XK) (x : Nat) (h : XH) (v1 : Option Nat) (v2 : Int32) (v3 : Int32) : Option (Int32 × XH) := if x_b 7 10 = true then x_let (x_i h (x + 44) (7 : Int32).toNatClampNeg v2) (fun h2 => if x_b 1 10 = true then x_let (x_i h2 (x + 44) (1 : Int32).toNatClampNeg v3) (fun h4 => Option.bind (f_X9_heldBy K x h4 v1) (fun q5 => some (q5.1, q5.2))) else none) else none
set_option maxRecDepth 20000 in
theorem S_X5_heldWith {l : Launch} {O : XO} {K : XK} {h : XH} {v1 : Option Nat} {v2 : Int32} {v3 : Int32}  {r : Int32} {h' : XH} (k1 : ∀ r, v1 = some r → K r = (11, 0)) (hf : f_X5_heldWith K (oX O) h v1 v2 v3 = some (r, h')) : x_M l O K yX5_heldWith cX5_heldWith 4 (some .int) 3 78 h [.ref (oX O + 46), va_rf v1, .int v2, .int v3] (some (.int r)) h' := by
  refine x_enter (by decide) (by cases v1 <;> exact Nat.le_of_ble_eq_true rfl) (fun p e s m args below meth c C hR ls hl => ?_)
  have hS : va_S (oA O) s.heap s.heap [] := va_S.rf
  have hx := C.1
  have hb := C.2.1
  have hl : lv_has ls 4 [(0, .ref (oX O + 46)), (1, va_rf v1), (2, .int v2), (3, .int v3)] := by cases v1 <;> exact hl
  rw [f_X5_heldWith] at hf
  refine lv_aload_n hx hb dX5_heldWith_0 rfl (lv_at hl 0 rfl) ?_
  refine gf_5_1 C hR (x_k hR 46 rfl) tw_391 dX5_heldWith_1 ?_
  refine gf_9_0 C hR (x_k hR 43 rfl) tw_375 dX5_heldWith_4 ?_
  refine lv_bipush (v := 7) hx hb dX5_heldWith_7 rfl ?_
  refine lv_iload_n hx hb dX5_heldWith_9 rfl (lv_at hl 2 rfl) ?_
  obtain ⟨g1, hf⟩ := x_gd hf
  obtain ⟨h2, eh2, hf⟩ := x_lt hf
  refine x_iast C hR hS (x_k1 (x_k hR 44 rfl)) (x_k2 (x_k hR 44 rfl) g1) dX5_heldWith_10 (fun H locs hR hS => ?_)
  rw [← eh2] at hR
  refine lv_aload_n hx hb dX5_heldWith_11 rfl (lv_at hl 0 rfl) ?_
  refine gf_5_1 C hR (x_k hR 46 rfl) tw_391 dX5_heldWith_12 ?_
  refine gf_9_0 C hR (x_k hR 43 rfl) tw_375 dX5_heldWith_15 ?_
  refine lv_iconst (v := 1) hx hb dX5_heldWith_18 rfl ?_
  refine lv_iload_n hx hb dX5_heldWith_19 rfl (lv_at hl 3 rfl) ?_
  obtain ⟨g3, hf⟩ := x_gd hf
  obtain ⟨h4, eh4, hf⟩ := x_lt hf
  refine x_iast C hR hS (x_k1 (x_k hR 44 rfl)) (x_k2 (x_k hR 44 rfl) g3) dX5_heldWith_20 (fun H locs hR hS => ?_)
  rw [← eh4] at hR
  refine lv_aload_n hx hb dX5_heldWith_21 rfl (lv_at hl 0 rfl) ?_
  refine gf_5_1 C hR (x_k hR 46 rfl) tw_391 dX5_heldWith_22 ?_
  refine x_aloadq_n hx hb dX5_heldWith_25 rfl (lv_at hl 1 rfl) ?_
  obtain ⟨q5, eq5, hf⟩ := x_bd hf
  refine x_cVi1 C hR hS (S_X9_heldBy k1 eq5) (x_k hR 43 rfl) (by decide) rfl mf_X9_heldBy tw_1125 (Nat.le_of_ble_eq_true rfl) (Nat.le_of_ble_eq_true rfl) hl.1 (Nat.le_of_ble_eq_true rfl) dX5_heldWith_26 ⟨Nat.le_refl _, Nat.le_refl _⟩ (fun H locs hR hS => ?_)
  cases hf
  exact x_iret C hR hS dX5_heldWith_29
def f_X6_find (x : Nat) (h : XH) (v1 : Int32) (v2 : Int32) : Option (XH) := if x_b v1 8 = true then Option.bind (f_X2_placeOf ((x + 13) + 6 + 3 * v1.toNatClampNeg) h v2) (fun v_2 => Option.bind (f_X2_roleOf ((x + 13) + 6 + 3 * v1.toNatClampNeg) h v2) (fun v_3 => x_let ((f_X2_cardWith ((x + 13) + 6 + 3 * v1.toNatClampNeg) h (v_2 + 1) v_3) : Int32) (fun t4 => Option.bind (f_X6_ghostAt x h v1 ((h.1 (((x + 13) + 6 + 3 * v1.toNatClampNeg) + 1) 1) + v_2) v_3) (fun v_5 => if x_b 2 6 = true then x_let (x_i h (x + 50) (2 : Int32).toNatClampNeg v_5) (fun h7 => Option.bind (f_X6_alikeTo x h7 ((x + 13) + 6 + 3 * v1.toNatClampNeg) v_2 v_3) (fun v_8 => if x_b 3 6 = true then x_let (x_i h7 (x + 50) (3 : Int32).toNatClampNeg v_8) (fun h10 => if x_b 4 6 = true then x_let (x_i h10 (x + 50) (4 : Int32).toNatClampNeg (f_X6_swappedWith x h10 ((x + 13) + 6 + 3 * v1.toNatClampNeg) v_2 v_3)) (fun h12 => if x_b 5 6 = true then x_let (x_i h12 (x + 50) (5 : Int32).toNatClampNeg (if t4 = (-1) then (f_X2_cardWith ((x + 13) + 6 + 3 * v1.toNatClampNeg) h12 (v_2 - 1) v_3) else t4)) (fun h15 => some h15) else none) else none) else none)) else none)))) else none
set_option maxRecDepth 20000 in
theorem S_X6_find {l : Launch} {O : XO} {K : XK} {h : XH} {v1 : Int32} {v2 : Int32}  {h' : XH}  (hf : f_X6_find (oX O) h v1 v2 = some h') : x_M l O K yX6_find cX6_find 7 none 3 74 h [.ref (oX O + 49), .int v1, .int v2] none h' := by
  refine x_enter (by decide) (Nat.le_of_ble_eq_true rfl) (fun p e s m args below meth c C hR ls hl => ?_)
  have hS : va_S (oA O) s.heap s.heap [] := va_S.rf
  have hx := C.1
  have hb := C.2.1
  have hl : lv_has ls 7 [(0, .ref (oX O + 49)), (1, .int v1), (2, .int v2)] := hl
  rw [f_X6_find] at hf
  refine lv_aload_n hx hb dX6_find_0 rfl (lv_at hl 0 rfl) ?_
  refine gf_6_0 C hR (x_k hR 49 rfl) tw_409 dX6_find_1 ?_
  refine gf_7_5 C hR (x_k hR 9 rfl) tw_303 dX6_find_4 ?_
  refine lv_iload_n hx hb dX6_find_7 rfl (lv_at hl 1 rfl) ?_
  obtain ⟨g1, hf⟩ := x_gd hf
  refine x_paald C hR (x_k1 (x_k hR 13 rfl)) (x_k2 (x_k hR 13 rfl) g1) dX6_find_8 ?_
  refine lv_astore_n (lv' := [(3, _), (0, _), (1, _), (2, _)]) hx hb dX6_find_9 rfl hl (Nat.le_of_ble_eq_true rfl) rfl (fun ls hl => ?_)
  refine lv_aload_n hx hb dX6_find_10 rfl (lv_at hl 0 rfl) ?_
  refine lv_iload_n hx hb dX6_find_11 rfl (lv_at hl 3 rfl) ?_
  obtain ⟨v_2, ev_2, hf⟩ := x_bd hf
  refine x_cVi1 C hR hS (S_X2_placeOf (x_kP hR (x_k hR 13 rfl) g1) ev_2) (x_kP hR (x_k hR 13 rfl) g1) (by decide) rfl mf_X2_placeOf tw_1170 (Nat.le_of_ble_eq_true rfl) (Nat.le_of_ble_eq_true rfl) hl.1 (Nat.le_of_ble_eq_true rfl) dX6_find_12 ⟨Nat.le_refl _, Nat.le_refl _⟩ (fun H locs hR hS => ?_)
  refine lv_istore (lv' := [(4, _), (3, _), (0, _), (1, _), (2, _)]) hx hb dX6_find_15 hl (Nat.le_of_ble_eq_true rfl) rfl (fun ls hl => ?_)
  refine lv_aload_n hx hb dX6_find_17 rfl (lv_at hl 1 rfl) ?_
  refine lv_iload_n hx hb dX6_find_18 rfl (lv_at hl 4 rfl) ?_
  obtain ⟨v_3, ev_3, hf⟩ := x_bd hf
  refine x_cVi1 C hR hS (S_X2_roleOf (x_kP hR (x_k hR 13 rfl) g1) ev_3) (x_kP hR (x_k hR 13 rfl) g1) (by decide) rfl mf_X2_roleOf tw_1171 (Nat.le_of_ble_eq_true rfl) (Nat.le_of_ble_eq_true rfl) hl.1 (Nat.le_of_ble_eq_true rfl) dX6_find_19 ⟨Nat.le_refl _, Nat.le_refl _⟩ (fun H locs hR hS => ?_)
  refine lv_istore (lv' := [(5, _), (4, _), (3, _), (0, _), (1, _), (2, _)]) hx hb dX6_find_22 hl (Nat.le_of_ble_eq_true rfl) rfl (fun ls hl => ?_)
  refine lv_aload_n hx hb dX6_find_24 rfl (lv_at hl 2 rfl) ?_
  refine lv_iload hx hb dX6_find_25 (lv_at hl 1 rfl) ?_
  refine lv_iconst (v := 1) hx hb dX6_find_27 rfl ?_
  refine lv_iadd hx hb dX6_find_28 ?_
  refine lv_iload hx hb dX6_find_29 (lv_at hl 0 rfl) ?_
  refine x_cVi2 C hR hS (S_X2_cardWith (x_kP hR (x_k hR 13 rfl) g1) rfl) (x_kP hR (x_k hR 13 rfl) g1) (by decide) rfl mf_X2_cardWith tw_1172 (Nat.le_of_ble_eq_true rfl) (Nat.le_of_ble_eq_true rfl) hl.1 (Nat.le_of_ble_eq_true rfl) dX6_find_31 ⟨Nat.le_refl _, Nat.le_refl _⟩ (fun H locs hR hS => ?_)
  obtain ⟨t4, et4, hf⟩ := x_lt hf
  refine x_nmi et4 ?_
  refine lv_istore (lv' := [(6, _), (5, _), (4, _), (3, _), (0, _), (1, _), (2, _)]) hx hb dX6_find_34 hl (Nat.le_of_ble_eq_true rfl) rfl (fun ls hl => ?_)
  refine lv_aload_n hx hb dX6_find_36 rfl (lv_at hl 4 rfl) ?_
  refine gf_6_1 C hR (x_k hR 49 rfl) tw_410 dX6_find_37 ?_
  refine lv_iconst (v := 2) hx hb dX6_find_40 rfl ?_
  refine lv_aload_n hx hb dX6_find_41 rfl (lv_at hl 4 rfl) ?_
  refine lv_iload_n hx hb dX6_find_42 rfl (lv_at hl 5 rfl) ?_
  refine lv_aload_n hx hb dX6_find_43 rfl (lv_at hl 3 rfl) ?_
  refine gf_2_4 C hR (x_kP hR (x_k hR 13 rfl) g1) tw_265 dX6_find_44 ?_
  refine gf_4_1 C hR (kf_2_1 hR (x_kP hR (x_k hR 13 rfl) g1)) tw_215 dX6_find_47 ?_
  refine lv_iload hx hb dX6_find_50 (lv_at hl 2 rfl) ?_
  refine lv_iadd hx hb dX6_find_52 ?_
  refine lv_iload hx hb dX6_find_53 (lv_at hl 1 rfl) ?_
  obtain ⟨v_5, ev_5, hf⟩ := x_bd hf
  refine x_cVi3 C hR hS (S_X6_ghostAt  ev_5) (x_k hR 49 rfl) (by decide) rfl mf_X6_ghostAt tw_1176 (Nat.le_of_ble_eq_true rfl) (Nat.le_of_ble_eq_true rfl) hl.1 (Nat.le_of_ble_eq_true rfl) dX6_find_55 ⟨Nat.le_refl _, Nat.le_refl _⟩ (fun H locs hR hS => ?_)
  obtain ⟨g6, hf⟩ := x_gd hf
  obtain ⟨h7, eh7, hf⟩ := x_lt hf
  refine x_iast C hR hS (x_k1 (x_k hR 50 rfl)) (x_k2 (x_k hR 50 rfl) g6) dX6_find_58 (fun H locs hR hS => ?_)
  rw [← eh7] at hR
  refine lv_aload_n hx hb dX6_find_59 rfl (lv_at hl 4 rfl) ?_
  refine gf_6_1 C hR (x_k hR 49 rfl) tw_410 dX6_find_60 ?_
  refine lv_iconst (v := 3) hx hb dX6_find_63 rfl ?_
  refine lv_aload_n hx hb dX6_find_64 rfl (lv_at hl 4 rfl) ?_
  refine lv_aload_n hx hb dX6_find_65 rfl (lv_at hl 3 rfl) ?_
  refine lv_iload hx hb dX6_find_66 (lv_at hl 2 rfl) ?_
  refine lv_iload hx hb dX6_find_68 (lv_at hl 1 rfl) ?_
  obtain ⟨v_8, ev_8, hf⟩ := x_bd hf
  refine x_cVi3 C hR hS (S_X6_alikeTo (x_kP hR (x_k hR 13 rfl) g1) ev_8) (x_k hR 49 rfl) (by decide) rfl mf_X6_alikeTo tw_1181 (Nat.le_of_ble_eq_true rfl) (Nat.le_of_ble_eq_true rfl) hl.1 (Nat.le_of_ble_eq_true rfl) dX6_find_70 ⟨Nat.le_refl _, Nat.le_refl _⟩ (fun H locs hR hS => ?_)
  obtain ⟨g9, hf⟩ := x_gd hf
  obtain ⟨h10, eh10, hf⟩ := x_lt hf
  refine x_iast C hR hS (x_k1 (x_k hR 50 rfl)) (x_k2 (x_k hR 50 rfl) g9) dX6_find_73 (fun H locs hR hS => ?_)
  rw [← eh10] at hR
  refine lv_aload_n hx hb dX6_find_74 rfl (lv_at hl 4 rfl) ?_
  refine gf_6_1 C hR (x_k hR 49 rfl) tw_410 dX6_find_75 ?_
  refine lv_iconst (v := 4) hx hb dX6_find_78 rfl ?_
  refine lv_aload_n hx hb dX6_find_79 rfl (lv_at hl 4 rfl) ?_
  refine lv_aload_n hx hb dX6_find_80 rfl (lv_at hl 3 rfl) ?_
  refine lv_iload hx hb dX6_find_81 (lv_at hl 2 rfl) ?_
  refine lv_iload hx hb dX6_find_83 (lv_at hl 1 rfl) ?_
  refine x_cVi3 C hR hS (S_X6_swappedWith (x_kP hR (x_k hR 13 rfl) g1) rfl) (x_k hR 49 rfl) (by decide) rfl mf_X6_swappedWith tw_1187 (Nat.le_of_ble_eq_true rfl) (Nat.le_of_ble_eq_true rfl) hl.1 (Nat.le_of_ble_eq_true rfl) dX6_find_85 ⟨Nat.le_refl _, Nat.le_refl _⟩ (fun H locs hR hS => ?_)
  obtain ⟨g11, hf⟩ := x_gd hf
  obtain ⟨h12, eh12, hf⟩ := x_lt hf
  refine x_iast C hR hS (x_k1 (x_k hR 50 rfl)) (x_k2 (x_k hR 50 rfl) g11) dX6_find_88 (fun H locs hR hS => ?_)
  rw [← eh12] at hR
  refine lv_aload_n hx hb dX6_find_89 rfl (lv_at hl 4 rfl) ?_
  refine gf_6_1 C hR (x_k hR 49 rfl) tw_410 dX6_find_90 ?_
  refine lv_iconst (v := 5) hx hb dX6_find_93 rfl ?_
  refine lv_iload hx hb dX6_find_94 (lv_at hl 0 rfl) ?_
  refine lv_iconst (v := (-1)) hx hb dX6_find_96 rfl ?_
  have kM13 : ∀ (ls : Array Slot) (H : Heap) (locs : List Loc), lv_has ls 7 [] → x_R O K h12 H → va_S (oA O) s.heap H locs → W p l e (x_rm 3 74) s m args below meth c H locs 0 0 (MQ below (x_Qc O K h' none) args s 0 0 (oA O)) (F0 m 115 ls [.int (if t4 = (-1) then (f_X2_cardWith ((oX O + 13) + 6 + 3 * v1.toNatClampNeg) h12 (v_2 - 1) v_3) else t4), .int 5, .ref (oX O + 50)]) := by
    intro ls H locs hl hR hS
    obtain ⟨g14, hf⟩ := x_gd hf
    obtain ⟨h15, eh15, hf⟩ := x_lt hf
    refine x_iast C hR hS (x_k1 (x_k hR 50 rfl)) (x_k2 (x_k hR 50 rfl) g14) dX6_find_115 (fun H locs hR hS => ?_)
    rw [← eh15] at hR
    cases hf
    exact x_vret C hR hS dX6_find_116
  refine lv_icmp_eq (tgt := 105) hx hb dX6_find_97 rfl (fun hc => ?_) (fun hc => ?_)
  · try simp only [if_pos hc] at kM13
    refine lv_aload_n hx hb dX6_find_105 rfl (lv_at hl 3 rfl) ?_
    refine lv_iload hx hb dX6_find_106 (lv_at hl 2 rfl) ?_
    refine lv_iconst (v := 1) hx hb dX6_find_108 rfl ?_
    refine lv_isub hx hb dX6_find_109 ?_
    refine lv_iload hx hb dX6_find_110 (lv_at hl 1 rfl) ?_
    refine x_cVi2 C hR hS (S_X2_cardWith (x_kP hR (x_k hR 13 rfl) g1) rfl) (x_kP hR (x_k hR 13 rfl) g1) (by decide) rfl mf_X2_cardWith tw_1172 (Nat.le_of_ble_eq_true rfl) (Nat.le_of_ble_eq_true rfl) hl.1 (Nat.le_of_ble_eq_true rfl) dX6_find_112 ⟨Nat.le_refl _, Nat.le_refl _⟩ (fun H locs hR hS => ?_)
    exact kM13 ls _ _ (lv_sub hl [] rfl) hR hS
  · try simp only [if_neg hc] at kM13
    refine lv_iload hx hb dX6_find_100 (lv_at hl 0 rfl) ?_
    refine lv_goto (tgt := 115) hx hb dX6_find_102 rfl ?_
    exact kM13 ls _ _ (lv_sub hl [] rfl) hR hS
def f_X0_sumUp_221 (k60 : XH → Option Nat → Int32 → Option (XH)) (K : XK) (x : Nat) (h : XH) (v1 : Option Nat) (v2 : Int32) : Option (XH) := k60 h v1 (v2 + 1)
def f_X0_sumUp_207 (k60 : XH → Option Nat → Int32 → Option (XH)) (k84 : XH → Option Nat → Int32 → Nat → Int32 → Option (XH)) (k157 : XH → Option Nat → Int32 → Nat → Int32 → Int32 → Int32 → Int32 → Option (XH)) (K : XK) (x : Nat) (h : XH) (v1 : Option Nat) (v2 : Int32) (v3 : Nat) (v4 : Int32) (v5 : Int32) (v6 : Int32) (v7 : Int32) (s1 : Int32) (s2 : Int32) (s3 : Int32) : Option (XH) := if x_b s1 1560 = true then x_let (x_i h (x + 62) s1.toNatClampNeg (s2 + s3)) (fun h9 => k157 h9 v1 v2 v3 v4 v5 v6 (v7 + 1)) else none
def f_X0_sumUp_157 (k60 : XH → Option Nat → Int32 → Option (XH)) (k84 : XH → Option Nat → Int32 → Nat → Int32 → Option (XH)) (K : XK) (x : Nat) : Nat → XH → Option Nat → Int32 → Nat → Int32 → Int32 → Int32 → Int32 → Option (XH)
  | 0, _, _, _, _, _, _, _, _ => none
  | n + 1, h, v1, v2, v3, v4, v5, v6, v7 => if 10 ≤ v7 then k84 h v1 v2 v3 (v4 + 1) else if x_b (v6 + v7) 1560 = true then if x_b v5 3 = true then if ((x_shr (h.1 (x + 63) v5.toNatClampNeg) v7) &&& 1) = 1 then Option.bind (f_X5_heldWith K x h v1 v5 v7) (fun q10 => f_X0_sumUp_207 k60 k84 (f_X0_sumUp_157 k60 k84 K x n) K x q10.2 v1 v2 v3 v4 v5 v6 v7 (v6 + v7) (h.1 (x + 62) (v6 + v7).toNatClampNeg) q10.1) else f_X0_sumUp_207 k60 k84 (f_X0_sumUp_157 k60 k84 K x n) K x h v1 v2 v3 v4 v5 v6 v7 (v6 + v7) (h.1 (x + 62) (v6 + v7).toNatClampNeg) 0 else none else none
def f_X0_sumUp_138 (k60 : XH → Option Nat → Int32 → Option (XH)) (k84 : XH → Option Nat → Int32 → Nat → Int32 → Option (XH)) (K : XK) (x : Nat) (h : XH) (v1 : Option Nat) (v2 : Int32) (v3 : Nat) (v4 : Int32) (v5 : Int32) : Option (XH) := x_let (((((f_X2_cardAt v3 h v4) * 3) + v5) * 10) : Int32) (fun t5 => f_X0_sumUp_157 k60 k84 K x x_FU h v1 v2 v3 v4 v5 t5 0)
def f_X0_sumUp_84 (k60 : XH → Option Nat → Int32 → Option (XH)) (K : XK) (x : Nat) : Nat → XH → Option Nat → Int32 → Nat → Int32 → Option (XH)
  | 0, _, _, _, _, _ => none
  | n + 1, h, v1, v2, v3, v4 => if (h.1 v3 2) ≤ v4 then f_X0_sumUp_221 k60 K x h v1 v2 else if (h.1 v3 3) = 0 then f_X0_sumUp_221 k60 K x h v1 v2 else Option.bind (f_X2_roleOf v3 h v4) (fun v_4 => if v_4 = 0 then Option.bind (f_X2_placeOf v3 h v4) (fun v_11 => Option.bind (f_X5_facePlace x h v2 (v3 + 1) v_11 (h.1 (x + 9) 7)) (fun h12 => f_X0_sumUp_138 k60 (f_X0_sumUp_84 k60 K x n) K x h12 v1 v2 v3 v4 v_4)) else f_X0_sumUp_138 k60 (f_X0_sumUp_84 k60 K x n) K x h v1 v2 v3 v4 v_4)
def f_X0_sumUp_60 (K : XK) (x : Nat) : Nat → XH → Option Nat → Int32 → Option (XH)
  | 0, _, _, _ => none
  | n + 1, h, v1, v2 => if (h.1 (x + 9) 4) ≤ v2 then some h else if x_b v2 8 = true then f_X0_sumUp_84 (f_X0_sumUp_60 K x n) K x x_FU h v1 v2 ((x + 13) + 6 + 3 * v2.toNatClampNeg) 0 else none
def f_X0_sumUp_18 (K : XK) (x : Nat) : Nat → XH → Option Nat → Int32 → Option (XH)
  | 0, _, _, _ => none
  | n + 1, h, v1, v2 => if 156 ≤ v2 then f_X0_sumUp_60 K x x_FU h v1 0 else if x_b (x_rem v2 3) 3 = true then if x_b v2 156 = true then if x_b (x_rem v2 3) 3 = true then x_let (x_i h (x + 63) (x_rem v2 3).toNatClampNeg ((h.1 (x + 63) (x_rem v2 3).toNatClampNeg) ||| (x_shl 1 (h.1 (x + 10) v2.toNatClampNeg)))) (fun h16 => f_X0_sumUp_18 K x n h16 v1 (v2 + 1)) else none else none else none
def f_X0_sumUp (K : XK) (x : Nat) (h : XH) (v1 : Option Nat) : Option (XH) := Option.bind (f_J7_fill_53178 K h (x + 62) 0) (fun h1 => Option.bind (f_J7_fill_53178 K h1 (x + 63) 0) (fun h2 => f_X0_sumUp_18 K x x_FU h2 v1 0))
set_option maxRecDepth 20000 in
theorem B_X0_sumUp_221 {p : Program} {l : Launch} {e : Env} {s : State} {m : MethodId} {args : Array Value} {below : List Frame} {meth : Method} {c : Code} {O : XO} {K : XK} {h' : XH}  {k60 : XH → Option Nat → Int32 → Option (XH)} (C : x_C p s m args meth c O cX0_sumUp 8 RX0 none) (hk60 : ∀ (ls : Array Slot) (H : Heap) (locs : List Loc) (h : XH) (v1 : Option Nat) (v2 : Int32) (kv1 : ∀ r, v1 = some r → K r = (11, 0)), lv_has ls 8 [(0, .ref (oX O + 59)), (1, va_rf v1), (2, .int v2)] → x_R O K h H → va_S (oA O) s.heap H locs → k60 h v1 v2 = some h' → W p l e (x_rm 4 101) s m args below meth c H locs 0 0 (MQ below (x_Qc O K h' none) args s 0 0 (oA O)) (F0 m 60 ls []))  (ls : Array Slot) (H : Heap) (locs : List Loc) (h : XH) (v1 : Option Nat) (v2 : Int32) (kv1 : ∀ r, v1 = some r → K r = (11, 0)) (hl : lv_has ls 8 [(0, .ref (oX O + 59)), (1, va_rf v1), (2, .int v2)]) (hR : x_R O K h H) (hS : va_S (oA O) s.heap H locs) (hf : f_X0_sumUp_221 k60 K (oX O) h v1 v2 = some h') : W p l e (x_rm 4 101) s m args below meth c H locs 0 0 (MQ below (x_Qc O K h' none) args s 0 0 (oA O)) (F0 m 221 ls []) := by
  have hx := C.1
  have hb := C.2.1
  rw [f_X0_sumUp_221] at hf
  refine lv_iinc (k := 2) (v := _ + 1) (lv' := [(2, .int (v2 + 1)), (0, .ref (oX O + 59)), (1, va_rf v1)]) hx hb dX0_sumUp_221 hl rfl (x_inc 1 1 rfl _) (Nat.le_of_ble_eq_true rfl) (by cases v1 <;> rfl) (fun ls hl => ?_)
  refine lv_goto (tgt := 60) hx hb dX0_sumUp_224 rfl ?_
  exact hk60 ls _ _ h _ _ kv1 (lv_sub hl [1, 2, 0] rfl) hR hS hf
set_option maxRecDepth 20000 in
theorem B_X0_sumUp_207 {p : Program} {l : Launch} {e : Env} {s : State} {m : MethodId} {args : Array Value} {below : List Frame} {meth : Method} {c : Code} {O : XO} {K : XK} {h' : XH}  {k60 : XH → Option Nat → Int32 → Option (XH)} {k84 : XH → Option Nat → Int32 → Nat → Int32 → Option (XH)} {k157 : XH → Option Nat → Int32 → Nat → Int32 → Int32 → Int32 → Int32 → Option (XH)} (C : x_C p s m args meth c O cX0_sumUp 8 RX0 none) (hk60 : ∀ (ls : Array Slot) (H : Heap) (locs : List Loc) (h : XH) (v1 : Option Nat) (v2 : Int32) (kv1 : ∀ r, v1 = some r → K r = (11, 0)), lv_has ls 8 [(0, .ref (oX O + 59)), (1, va_rf v1), (2, .int v2)] → x_R O K h H → va_S (oA O) s.heap H locs → k60 h v1 v2 = some h' → W p l e (x_rm 4 101) s m args below meth c H locs 0 0 (MQ below (x_Qc O K h' none) args s 0 0 (oA O)) (F0 m 60 ls [])) (hk84 : ∀ (ls : Array Slot) (H : Heap) (locs : List Loc) (h : XH) (v1 : Option Nat) (v2 : Int32) (v3 : Nat) (v4 : Int32) (kv1 : ∀ r, v1 = some r → K r = (11, 0)) (kv3 : K v3 = (3, 0)), lv_has ls 8 [(0, .ref (oX O + 59)), (1, va_rf v1), (2, .int v2), (3, .ref v3), (4, .int v4)] → x_R O K h H → va_S (oA O) s.heap H locs → k84 h v1 v2 v3 v4 = some h' → W p l e (x_rm 4 101) s m args below meth c H locs 0 0 (MQ below (x_Qc O K h' none) args s 0 0 (oA O)) (F0 m 84 ls [])) (hk157 : ∀ (ls : Array Slot) (H : Heap) (locs : List Loc) (h : XH) (v1 : Option Nat) (v2 : Int32) (v3 : Nat) (v4 : Int32) (v5 : Int32) (v6 : Int32) (v7 : Int32) (kv1 : ∀ r, v1 = some r → K r = (11, 0)) (kv3 : K v3 = (3, 0)), lv_has ls 8 [(0, .ref (oX O + 59)), (1, va_rf v1), (2, .int v2), (3, .ref v3), (4, .int v4), (5, .int v5), (6, .int v6), (7, .int v7)] → x_R O K h H → va_S (oA O) s.heap H locs → k157 h v1 v2 v3 v4 v5 v6 v7 = some h' → W p l e (x_rm 4 101) s m args below meth c H locs 0 0 (MQ below (x_Qc O K h' none) args s 0 0 (oA O)) (F0 m 157 ls []))  (ls : Array Slot) (H : Heap) (locs : List Loc) (h : XH) (v1 : Option Nat) (v2 : Int32) (v3 : Nat) (v4 : Int32) (v5 : Int32) (v6 : Int32) (v7 : Int32) (s1 : Int32) (s2 : Int32) (s3 : Int32) (kv1 : ∀ r, v1 = some r → K r = (11, 0)) (kv3 : K v3 = (3, 0)) (hl : lv_has ls 8 [(0, .ref (oX O + 59)), (1, va_rf v1), (2, .int v2), (3, .ref v3), (4, .int v4), (5, .int v5), (6, .int v6), (7, .int v7)]) (hR : x_R O K h H) (hS : va_S (oA O) s.heap H locs) (hf : f_X0_sumUp_207 k60 k84 k157 K (oX O) h v1 v2 v3 v4 v5 v6 v7 s1 s2 s3 = some h') : W p l e (x_rm 4 101) s m args below meth c H locs 0 0 (MQ below (x_Qc O K h' none) args s 0 0 (oA O)) (F0 m 207 ls [.int s3, .int s2, .int s1, .ref (oX O + 62)]) := by
  have hx := C.1
  have hb := C.2.1
  rw [f_X0_sumUp_207] at hf
  refine lv_iadd hx hb dX0_sumUp_207 ?_
  obtain ⟨g8, hf⟩ := x_gd hf
  obtain ⟨h9, eh9, hf⟩ := x_lt hf
  refine x_iast C hR hS (x_k1 (x_k hR 62 rfl)) (x_k2 (x_k hR 62 rfl) g8) dX0_sumUp_208 (fun H locs hR hS => ?_)
  rw [← eh9] at hR
  refine lv_iinc (k := 7) (v := _ + 1) (lv' := [(7, _), (0, _), (1, _), (2, _), (3, _), (4, _), (5, _), (6, _)]) hx hb dX0_sumUp_209 hl rfl (x_inc 1 1 rfl _) (Nat.le_of_ble_eq_true rfl) rfl (fun ls hl => ?_)
  refine lv_goto (tgt := 157) hx hb dX0_sumUp_212 rfl ?_
  exact hk157 ls _ _ h9 _ _ _ _ _ _ _ kv1 kv3 (lv_sub hl [1, 2, 3, 4, 5, 6, 7, 0] rfl) hR hS hf
set_option maxRecDepth 20000 in
theorem B_X0_sumUp_157 {p : Program} {l : Launch} {e : Env} {s : State} {m : MethodId} {args : Array Value} {below : List Frame} {meth : Method} {c : Code} {O : XO} {K : XK} {h' : XH}  {k60 : XH → Option Nat → Int32 → Option (XH)} {k84 : XH → Option Nat → Int32 → Nat → Int32 → Option (XH)} (C : x_C p s m args meth c O cX0_sumUp 8 RX0 none) (hk60 : ∀ (ls : Array Slot) (H : Heap) (locs : List Loc) (h : XH) (v1 : Option Nat) (v2 : Int32) (kv1 : ∀ r, v1 = some r → K r = (11, 0)), lv_has ls 8 [(0, .ref (oX O + 59)), (1, va_rf v1), (2, .int v2)] → x_R O K h H → va_S (oA O) s.heap H locs → k60 h v1 v2 = some h' → W p l e (x_rm 4 101) s m args below meth c H locs 0 0 (MQ below (x_Qc O K h' none) args s 0 0 (oA O)) (F0 m 60 ls [])) (hk84 : ∀ (ls : Array Slot) (H : Heap) (locs : List Loc) (h : XH) (v1 : Option Nat) (v2 : Int32) (v3 : Nat) (v4 : Int32) (kv1 : ∀ r, v1 = some r → K r = (11, 0)) (kv3 : K v3 = (3, 0)), lv_has ls 8 [(0, .ref (oX O + 59)), (1, va_rf v1), (2, .int v2), (3, .ref v3), (4, .int v4)] → x_R O K h H → va_S (oA O) s.heap H locs → k84 h v1 v2 v3 v4 = some h' → W p l e (x_rm 4 101) s m args below meth c H locs 0 0 (MQ below (x_Qc O K h' none) args s 0 0 (oA O)) (F0 m 84 ls []))  : ∀ (n : Nat) (ls : Array Slot) (H : Heap) (locs : List Loc) (h : XH) (v1 : Option Nat) (v2 : Int32) (v3 : Nat) (v4 : Int32) (v5 : Int32) (v6 : Int32) (v7 : Int32) (kv1 : ∀ r, v1 = some r → K r = (11, 0)) (kv3 : K v3 = (3, 0)) (hl : lv_has ls 8 [(0, .ref (oX O + 59)), (1, va_rf v1), (2, .int v2), (3, .ref v3), (4, .int v4), (5, .int v5), (6, .int v6), (7, .int v7)]) (hR : x_R O K h H) (hS : va_S (oA O) s.heap H locs) (hf : f_X0_sumUp_157 k60 k84 K (oX O) n h v1 v2 v3 v4 v5 v6 v7 = some h'), W p l e (x_rm 4 101) s m args below meth c H locs 0 0 (MQ below (x_Qc O K h' none) args s 0 0 (oA O)) (F0 m 157 ls []) := by
  have hx := C.1
  have hb := C.2.1
  intro n
  induction n with
  | zero =>
    intro ls H locs h v1 v2 v3 v4 v5 v6 v7 kv1 kv3 hl hR hS hf
    rw [f_X0_sumUp_157] at hf
    cases hf
  | succ n ih =>
    intro ls H locs h v1 v2 v3 v4 v5 v6 v7 kv1 kv3 hl hR hS hf
    rw [f_X0_sumUp_157] at hf
    refine lv_iload hx hb dX0_sumUp_157 (lv_at hl 7 rfl) ?_
    refine lv_bipush (v := 10) hx hb dX0_sumUp_159 rfl ?_
    refine lv_icmp_ge (tgt := 215) hx hb dX0_sumUp_161 rfl (fun hc => ?_) (fun hc => ?_)
    · have hf := x_ip hc hf
      refine lv_iinc (k := 4) (v := _ + 1) (lv' := [(4, _), (0, _), (1, _), (2, _), (3, _), (5, _), (6, _), (7, _)]) hx hb dX0_sumUp_215 hl rfl (x_inc 1 1 rfl _) (Nat.le_of_ble_eq_true rfl) rfl (fun ls hl => ?_)
      refine lv_goto (tgt := 84) hx hb dX0_sumUp_218 rfl ?_
      exact hk84 ls _ _ h _ _ _ _ kv1 kv3 (lv_sub hl [1, 2, 3, 4, 0] rfl) hR hS hf
    · have hf := x_in hc hf
      refine lv_aload_n hx hb dX0_sumUp_164 rfl (lv_at hl 0 rfl) ?_
      refine gf_0_4 C hR (x_k hR 59 rfl) tw_480 dX0_sumUp_165 ?_
      refine lv_iload hx hb dX0_sumUp_168 (lv_at hl 6 rfl) ?_
      refine lv_iload hx hb dX0_sumUp_170 (lv_at hl 7 rfl) ?_
      refine lv_iadd hx hb dX0_sumUp_172 ?_
      refine lv_dup2_11 hx hb dX0_sumUp_173 rfl rfl ?_
      obtain ⟨g6, hf⟩ := x_gd hf
      refine x_iald C hR (x_k1 (x_k hR 62 rfl)) (x_k2 (x_k hR 62 rfl) g6) dX0_sumUp_174 ?_
      refine lv_aload_n hx hb dX0_sumUp_175 rfl (lv_at hl 0 rfl) ?_
      refine gf_0_5 C hR (x_k hR 59 rfl) tw_481 dX0_sumUp_176 ?_
      refine lv_iload hx hb dX0_sumUp_179 (lv_at hl 5 rfl) ?_
      obtain ⟨g7, hf⟩ := x_gd hf
      refine x_iald C hR (x_k1 (x_k hR 63 rfl)) (x_k2 (x_k hR 63 rfl) g7) dX0_sumUp_181 ?_
      refine lv_iload hx hb dX0_sumUp_182 (lv_at hl 7 rfl) ?_
      refine lv_ishr hx hb dX0_sumUp_184 ?_
      refine lv_iconst (v := 1) hx hb dX0_sumUp_185 rfl ?_
      refine lv_iand hx hb dX0_sumUp_186 ?_
      refine lv_iconst (v := 1) hx hb dX0_sumUp_187 rfl ?_
      refine lv_icmp_ne (tgt := 206) hx hb dX0_sumUp_188 rfl (fun hc => ?_) (fun hc => ?_)
      · have hf := x_in hc hf
        refine lv_iconst (v := 0) hx hb dX0_sumUp_206 rfl ?_
        exact B_X0_sumUp_207  C hk60 hk84 ih  ls _ _ h _ _ _ _ _ _ _ _ _ _ kv1 kv3 (lv_sub hl [0, 1, 2, 3, 4, 5, 6, 7] rfl) hR hS hf
      · have hf := x_ip hc hf
        refine lv_aload_n hx hb dX0_sumUp_191 rfl (lv_at hl 0 rfl) ?_
        refine gf_0_1 C hR (x_k hR 59 rfl) tw_477 dX0_sumUp_192 ?_
        refine x_aloadq_n hx hb dX0_sumUp_195 rfl (lv_at hl 1 rfl) ?_
        refine lv_iload hx hb dX0_sumUp_196 (lv_at hl 5 rfl) ?_
        refine lv_iload hx hb dX0_sumUp_198 (lv_at hl 7 rfl) ?_
        obtain ⟨q10, eq10, hf⟩ := x_bd hf
        refine x_cVi3 C hR hS (S_X5_heldWith kv1 eq10) (x_k hR 46 rfl) (by decide) rfl mf_X5_heldWith tw_1528 (Nat.le_of_ble_eq_true rfl) (Nat.le_of_ble_eq_true rfl) hl.1 (Nat.le_of_ble_eq_true rfl) dX0_sumUp_200 ⟨Nat.le_refl _, Nat.le_refl _⟩ (fun H locs hR hS => ?_)
        refine lv_goto (tgt := 207) hx hb dX0_sumUp_203 rfl ?_
        exact B_X0_sumUp_207  C hk60 hk84 ih  ls _ _ q10.2 _ _ _ _ _ _ _ _ _ _ kv1 kv3 (lv_sub hl [0, 1, 2, 3, 4, 5, 6, 7] rfl) hR hS hf
set_option maxRecDepth 20000 in
theorem B_X0_sumUp_138 {p : Program} {l : Launch} {e : Env} {s : State} {m : MethodId} {args : Array Value} {below : List Frame} {meth : Method} {c : Code} {O : XO} {K : XK} {h' : XH}  {k60 : XH → Option Nat → Int32 → Option (XH)} {k84 : XH → Option Nat → Int32 → Nat → Int32 → Option (XH)} (C : x_C p s m args meth c O cX0_sumUp 8 RX0 none) (hk60 : ∀ (ls : Array Slot) (H : Heap) (locs : List Loc) (h : XH) (v1 : Option Nat) (v2 : Int32) (kv1 : ∀ r, v1 = some r → K r = (11, 0)), lv_has ls 8 [(0, .ref (oX O + 59)), (1, va_rf v1), (2, .int v2)] → x_R O K h H → va_S (oA O) s.heap H locs → k60 h v1 v2 = some h' → W p l e (x_rm 4 101) s m args below meth c H locs 0 0 (MQ below (x_Qc O K h' none) args s 0 0 (oA O)) (F0 m 60 ls [])) (hk84 : ∀ (ls : Array Slot) (H : Heap) (locs : List Loc) (h : XH) (v1 : Option Nat) (v2 : Int32) (v3 : Nat) (v4 : Int32) (kv1 : ∀ r, v1 = some r → K r = (11, 0)) (kv3 : K v3 = (3, 0)), lv_has ls 8 [(0, .ref (oX O + 59)), (1, va_rf v1), (2, .int v2), (3, .ref v3), (4, .int v4)] → x_R O K h H → va_S (oA O) s.heap H locs → k84 h v1 v2 v3 v4 = some h' → W p l e (x_rm 4 101) s m args below meth c H locs 0 0 (MQ below (x_Qc O K h' none) args s 0 0 (oA O)) (F0 m 84 ls []))  (ls : Array Slot) (H : Heap) (locs : List Loc) (h : XH) (v1 : Option Nat) (v2 : Int32) (v3 : Nat) (v4 : Int32) (v5 : Int32) (kv1 : ∀ r, v1 = some r → K r = (11, 0)) (kv3 : K v3 = (3, 0)) (hl : lv_has ls 8 [(0, .ref (oX O + 59)), (1, va_rf v1), (2, .int v2), (3, .ref v3), (4, .int v4), (5, .int v5)]) (hR : x_R O K h H) (hS : va_S (oA O) s.heap H locs) (hf : f_X0_sumUp_138 k60 k84 K (oX O) h v1 v2 v3 v4 v5 = some h') : W p l e (x_rm 4 101) s m args below meth c H locs 0 0 (MQ below (x_Qc O K h' none) args s 0 0 (oA O)) (F0 m 138 ls []) := by
  have hx := C.1
  have hb := C.2.1
  rw [f_X0_sumUp_138] at hf
  refine lv_aload_n hx hb dX0_sumUp_138 rfl (lv_at hl 3 rfl) ?_
  refine lv_iload hx hb dX0_sumUp_139 (lv_at hl 4 rfl) ?_
  refine x_cVi1 C hR hS (S_X2_cardAt kv3 rfl) kv3 (by decide) rfl mf_X2_cardAt tw_574 (Nat.le_of_ble_eq_true rfl) (Nat.le_of_ble_eq_true rfl) hl.1 (Nat.le_of_ble_eq_true rfl) dX0_sumUp_141 ⟨Nat.le_refl _, Nat.le_refl _⟩ (fun H locs hR hS => ?_)
  refine lv_iconst (v := 3) hx hb dX0_sumUp_144 rfl ?_
  refine lv_imul hx hb dX0_sumUp_145 ?_
  refine lv_iload hx hb dX0_sumUp_146 (lv_at hl 5 rfl) ?_
  refine lv_iadd hx hb dX0_sumUp_148 ?_
  refine lv_bipush (v := 10) hx hb dX0_sumUp_149 rfl ?_
  refine lv_imul hx hb dX0_sumUp_151 ?_
  obtain ⟨t5, et5, hf⟩ := x_lt hf
  refine x_nmi et5 ?_
  refine lv_istore (lv' := [(6, _), (0, _), (1, _), (2, _), (3, _), (4, _), (5, _)]) hx hb dX0_sumUp_152 hl (Nat.le_of_ble_eq_true rfl) rfl (fun ls hl => ?_)
  refine lv_iconst (v := 0) hx hb dX0_sumUp_154 rfl ?_
  refine lv_istore (lv' := [(7, _), (6, _), (0, _), (1, _), (2, _), (3, _), (4, _), (5, _)]) hx hb dX0_sumUp_155 hl (Nat.le_of_ble_eq_true rfl) rfl (fun ls hl => ?_)
  exact B_X0_sumUp_157  C hk60 hk84 x_FU ls _ _ h _ _ _ _ _ _ _ kv1 kv3 (lv_sub hl [2, 3, 4, 5, 6, 7, 1, 0] rfl) hR hS hf
set_option maxRecDepth 20000 in
theorem B_X0_sumUp_84 {p : Program} {l : Launch} {e : Env} {s : State} {m : MethodId} {args : Array Value} {below : List Frame} {meth : Method} {c : Code} {O : XO} {K : XK} {h' : XH}  {k60 : XH → Option Nat → Int32 → Option (XH)} (C : x_C p s m args meth c O cX0_sumUp 8 RX0 none) (hk60 : ∀ (ls : Array Slot) (H : Heap) (locs : List Loc) (h : XH) (v1 : Option Nat) (v2 : Int32) (kv1 : ∀ r, v1 = some r → K r = (11, 0)), lv_has ls 8 [(0, .ref (oX O + 59)), (1, va_rf v1), (2, .int v2)] → x_R O K h H → va_S (oA O) s.heap H locs → k60 h v1 v2 = some h' → W p l e (x_rm 4 101) s m args below meth c H locs 0 0 (MQ below (x_Qc O K h' none) args s 0 0 (oA O)) (F0 m 60 ls []))  : ∀ (n : Nat) (ls : Array Slot) (H : Heap) (locs : List Loc) (h : XH) (v1 : Option Nat) (v2 : Int32) (v3 : Nat) (v4 : Int32) (kv1 : ∀ r, v1 = some r → K r = (11, 0)) (kv3 : K v3 = (3, 0)) (hl : lv_has ls 8 [(0, .ref (oX O + 59)), (1, va_rf v1), (2, .int v2), (3, .ref v3), (4, .int v4)]) (hR : x_R O K h H) (hS : va_S (oA O) s.heap H locs) (hf : f_X0_sumUp_84 k60 K (oX O) n h v1 v2 v3 v4 = some h'), W p l e (x_rm 4 101) s m args below meth c H locs 0 0 (MQ below (x_Qc O K h' none) args s 0 0 (oA O)) (F0 m 84 ls []) := by
  have hx := C.1
  have hb := C.2.1
  intro n
  induction n with
  | zero =>
    intro ls H locs h v1 v2 v3 v4 kv1 kv3 hl hR hS hf
    rw [f_X0_sumUp_84] at hf
    cases hf
  | succ n ih =>
    intro ls H locs h v1 v2 v3 v4 kv1 kv3 hl hR hS hf
    rw [f_X0_sumUp_84] at hf
    refine lv_iload hx hb dX0_sumUp_84 (lv_at hl 4 rfl) ?_
    refine lv_aload_n hx hb dX0_sumUp_86 rfl (lv_at hl 3 rfl) ?_
    refine gf_2_2 C hR kv3 tw_254 dX0_sumUp_87 ?_
    refine lv_icmp_ge (tgt := 221) hx hb dX0_sumUp_90 rfl (fun hc => ?_) (fun hc => ?_)
    · have hf := x_ip hc hf
      exact B_X0_sumUp_221  C hk60  ls _ _ h _ _ kv1 (lv_sub hl [0, 1, 2] rfl) hR hS hf
    · have hf := x_in hc hf
      refine lv_aload_n hx hb dX0_sumUp_93 rfl (lv_at hl 3 rfl) ?_
      refine gf_2_3 C hR kv3 tw_258 dX0_sumUp_94 ?_
      refine lv_if_eq (tgt := 221) hx hb dX0_sumUp_97 rfl (fun hc => ?_) (fun hc => ?_)
      · have hf := x_ip hc hf
        exact B_X0_sumUp_221  C hk60  ls _ _ h _ _ kv1 (lv_sub hl [0, 1, 2] rfl) hR hS hf
      · have hf := x_in hc hf
        refine lv_aload_n hx hb dX0_sumUp_100 rfl (lv_at hl 3 rfl) ?_
        refine lv_iload hx hb dX0_sumUp_101 (lv_at hl 4 rfl) ?_
        obtain ⟨v_4, ev_4, hf⟩ := x_bd hf
        refine x_cVi1 C hR hS (S_X2_roleOf kv3 ev_4) kv3 (by decide) rfl mf_X2_roleOf tw_1525 (Nat.le_of_ble_eq_true rfl) (Nat.le_of_ble_eq_true rfl) hl.1 (Nat.le_of_ble_eq_true rfl) dX0_sumUp_103 ⟨Nat.le_refl _, Nat.le_refl _⟩ (fun H locs hR hS => ?_)
        refine lv_istore (lv' := [(5, _), (0, _), (1, _), (2, _), (3, _), (4, _)]) hx hb dX0_sumUp_106 hl (Nat.le_of_ble_eq_true rfl) rfl (fun ls hl => ?_)
        refine lv_iload hx hb dX0_sumUp_108 (lv_at hl 0 rfl) ?_
        refine lv_if_ne (tgt := 138) hx hb dX0_sumUp_110 rfl (fun hc => ?_) (fun hc => ?_)
        · have hf := x_in hc hf
          exact B_X0_sumUp_138  C hk60 ih  ls _ _ h _ _ _ _ _ kv1 kv3 (lv_sub hl [1, 2, 3, 4, 5, 0] rfl) hR hS hf
        · have hf := x_ip hc hf
          refine lv_aload_n hx hb dX0_sumUp_113 rfl (lv_at hl 1 rfl) ?_
          refine gf_0_1 C hR (x_k hR 59 rfl) tw_477 dX0_sumUp_114 ?_
          refine lv_iload_n hx hb dX0_sumUp_117 rfl (lv_at hl 3 rfl) ?_
          refine lv_aload_n hx hb dX0_sumUp_118 rfl (lv_at hl 4 rfl) ?_
          refine gf_2_4 C hR kv3 tw_264 dX0_sumUp_119 ?_
          refine lv_aload_n hx hb dX0_sumUp_122 rfl (lv_at hl 4 rfl) ?_
          refine lv_iload hx hb dX0_sumUp_123 (lv_at hl 5 rfl) ?_
          obtain ⟨v_11, ev_11, hf⟩ := x_bd hf
          refine x_cVi1 C hR hS (S_X2_placeOf kv3 ev_11) kv3 (by decide) rfl mf_X2_placeOf tw_1526 (Nat.le_of_ble_eq_true rfl) (Nat.le_of_ble_eq_true rfl) hl.1 (Nat.le_of_ble_eq_true rfl) dX0_sumUp_125 ⟨Nat.le_refl _, Nat.le_refl _⟩ (fun H locs hR hS => ?_)
          refine lv_aload_n hx hb dX0_sumUp_128 rfl (lv_at hl 1 rfl) ?_
          refine gf_0_0 C hR (x_k hR 59 rfl) tw_476 dX0_sumUp_129 ?_
          refine gf_7_7 C hR (x_k hR 9 rfl) tw_311 dX0_sumUp_132 ?_
          obtain ⟨h12, eh12, hf⟩ := x_bd hf
          refine x_cVv4 C hR hS (S_X5_facePlace (kf_2_1 hR kv3) eh12) (x_k hR 46 rfl) (by decide) rfl mf_X5_facePlace tw_1527 (Nat.le_of_ble_eq_true rfl) (Nat.le_of_ble_eq_true rfl) hl.1 (Nat.le_of_ble_eq_true rfl) dX0_sumUp_135 ⟨Nat.le_refl _, Nat.le_refl _⟩ (fun H locs hR hS => ?_)
          exact B_X0_sumUp_138  C hk60 ih  ls _ _ h12 _ _ _ _ _ kv1 kv3 (lv_sub hl [1, 2, 3, 4, 5, 0] rfl) hR hS hf
set_option maxRecDepth 20000 in
theorem B_X0_sumUp_60 {p : Program} {l : Launch} {e : Env} {s : State} {m : MethodId} {args : Array Value} {below : List Frame} {meth : Method} {c : Code} {O : XO} {K : XK} {h' : XH}   (C : x_C p s m args meth c O cX0_sumUp 8 RX0 none)   : ∀ (n : Nat) (ls : Array Slot) (H : Heap) (locs : List Loc) (h : XH) (v1 : Option Nat) (v2 : Int32) (kv1 : ∀ r, v1 = some r → K r = (11, 0)) (hl : lv_has ls 8 [(0, .ref (oX O + 59)), (1, va_rf v1), (2, .int v2)]) (hR : x_R O K h H) (hS : va_S (oA O) s.heap H locs) (hf : f_X0_sumUp_60 K (oX O) n h v1 v2 = some h'), W p l e (x_rm 4 101) s m args below meth c H locs 0 0 (MQ below (x_Qc O K h' none) args s 0 0 (oA O)) (F0 m 60 ls []) := by
  have hx := C.1
  have hb := C.2.1
  intro n
  induction n with
  | zero =>
    intro ls H locs h v1 v2 kv1 hl hR hS hf
    rw [f_X0_sumUp_60] at hf
    cases hf
  | succ n ih =>
    intro ls H locs h v1 v2 kv1 hl hR hS hf
    rw [f_X0_sumUp_60] at hf
    refine lv_iload_n hx hb dX0_sumUp_60 rfl (lv_at hl 2 rfl) ?_
    refine lv_aload_n hx hb dX0_sumUp_61 rfl (lv_at hl 0 rfl) ?_
    refine gf_0_0 C hR (x_k hR 59 rfl) tw_476 dX0_sumUp_62 ?_
    refine gf_7_4 C hR (x_k hR 9 rfl) tw_297 dX0_sumUp_65 ?_
    refine lv_icmp_ge (tgt := 227) hx hb dX0_sumUp_68 rfl (fun hc => ?_) (fun hc => ?_)
    · have hf := x_ip hc hf
      cases hf
      exact x_vret C hR hS dX0_sumUp_227
    · have hf := x_in hc hf
      refine lv_aload_n hx hb dX0_sumUp_71 rfl (lv_at hl 0 rfl) ?_
      refine gf_0_0 C hR (x_k hR 59 rfl) tw_476 dX0_sumUp_72 ?_
      refine gf_7_5 C hR (x_k hR 9 rfl) tw_304 dX0_sumUp_75 ?_
      refine lv_iload_n hx hb dX0_sumUp_78 rfl (lv_at hl 2 rfl) ?_
      obtain ⟨g3, hf⟩ := x_gd hf
      refine x_paald C hR (x_k1 (x_k hR 13 rfl)) (x_k2 (x_k hR 13 rfl) g3) dX0_sumUp_79 ?_
      refine lv_astore_n (lv' := [(3, _), (0, _), (1, _), (2, _)]) hx hb dX0_sumUp_80 rfl hl (Nat.le_of_ble_eq_true rfl) rfl (fun ls hl => ?_)
      refine lv_iconst (v := 0) hx hb dX0_sumUp_81 rfl ?_
      refine lv_istore (lv' := [(4, _), (3, _), (0, _), (1, _), (2, _)]) hx hb dX0_sumUp_82 hl (Nat.le_of_ble_eq_true rfl) rfl (fun ls hl => ?_)
      exact B_X0_sumUp_84  C ih x_FU ls _ _ h _ _ _ _ kv1 (x_kP hR (x_k hR 13 rfl) g3) (lv_sub hl [2, 3, 4, 1, 0] rfl) hR hS hf
set_option maxRecDepth 20000 in
theorem B_X0_sumUp_18 {p : Program} {l : Launch} {e : Env} {s : State} {m : MethodId} {args : Array Value} {below : List Frame} {meth : Method} {c : Code} {O : XO} {K : XK} {h' : XH}   (C : x_C p s m args meth c O cX0_sumUp 8 RX0 none)   : ∀ (n : Nat) (ls : Array Slot) (H : Heap) (locs : List Loc) (h : XH) (v1 : Option Nat) (v2 : Int32) (kv1 : ∀ r, v1 = some r → K r = (11, 0)) (hl : lv_has ls 8 [(0, .ref (oX O + 59)), (1, va_rf v1), (2, .int v2)]) (hR : x_R O K h H) (hS : va_S (oA O) s.heap H locs) (hf : f_X0_sumUp_18 K (oX O) n h v1 v2 = some h'), W p l e (x_rm 4 101) s m args below meth c H locs 0 0 (MQ below (x_Qc O K h' none) args s 0 0 (oA O)) (F0 m 18 ls []) := by
  have hx := C.1
  have hb := C.2.1
  intro n
  induction n with
  | zero =>
    intro ls H locs h v1 v2 kv1 hl hR hS hf
    rw [f_X0_sumUp_18] at hf
    cases hf
  | succ n ih =>
    intro ls H locs h v1 v2 kv1 hl hR hS hf
    rw [f_X0_sumUp_18] at hf
    refine lv_iload_n hx hb dX0_sumUp_18 rfl (lv_at hl 2 rfl) ?_
    refine lv_aload_n hx hb dX0_sumUp_19 rfl (lv_at hl 0 rfl) ?_
    refine gf_0_0 C hR (x_k hR 59 rfl) tw_476 dX0_sumUp_20 ?_
    refine gf_7_0 C hR (x_k hR 9 rfl) tw_287 dX0_sumUp_23 ?_
    refine x_alenc (v := 156) C hR (x_k hR 10 rfl) rfl dX0_sumUp_26 ?_
    refine lv_icmp_ge (tgt := 58) hx hb dX0_sumUp_27 rfl (fun hc => ?_) (fun hc => ?_)
    · have hf := x_ip hc hf
      refine lv_iconst (v := 0) hx hb dX0_sumUp_58 rfl ?_
      refine lv_istore_n (lv' := [(2, .int 0), (0, .ref (oX O + 59)), (1, va_rf v1)]) hx hb dX0_sumUp_59 rfl hl (Nat.le_of_ble_eq_true rfl) (by cases v1 <;> rfl) (fun ls hl => ?_)
      exact B_X0_sumUp_60  C  x_FU ls _ _ h _ _ kv1 (lv_sub hl [1, 2, 0] rfl) hR hS hf
    · have hf := x_in hc hf
      refine lv_aload_n hx hb dX0_sumUp_30 rfl (lv_at hl 0 rfl) ?_
      refine gf_0_5 C hR (x_k hR 59 rfl) tw_481 dX0_sumUp_31 ?_
      refine lv_iload_n hx hb dX0_sumUp_34 rfl (lv_at hl 2 rfl) ?_
      refine lv_iconst (v := 3) hx hb dX0_sumUp_35 rfl ?_
      refine lv_irem hx hb dX0_sumUp_36 (by decide) ?_
      refine lv_dup2_11 hx hb dX0_sumUp_37 rfl rfl ?_
      obtain ⟨g13, hf⟩ := x_gd hf
      refine x_iald C hR (x_k1 (x_k hR 63 rfl)) (x_k2 (x_k hR 63 rfl) g13) dX0_sumUp_38 ?_
      refine lv_iconst (v := 1) hx hb dX0_sumUp_39 rfl ?_
      refine lv_aload_n hx hb dX0_sumUp_40 rfl (lv_at hl 0 rfl) ?_
      refine gf_0_0 C hR (x_k hR 59 rfl) tw_476 dX0_sumUp_41 ?_
      refine gf_7_0 C hR (x_k hR 9 rfl) tw_287 dX0_sumUp_44 ?_
      refine lv_iload_n hx hb dX0_sumUp_47 rfl (lv_at hl 2 rfl) ?_
      obtain ⟨g14, hf⟩ := x_gd hf
      refine x_iald C hR (x_k1 (x_k hR 10 rfl)) (x_k2 (x_k hR 10 rfl) g14) dX0_sumUp_48 ?_
      refine lv_ishl hx hb dX0_sumUp_49 ?_
      refine lv_ior hx hb dX0_sumUp_50 ?_
      obtain ⟨g15, hf⟩ := x_gd hf
      obtain ⟨h16, eh16, hf⟩ := x_lt hf
      refine x_iast C hR hS (x_k1 (x_k hR 63 rfl)) (x_k2 (x_k hR 63 rfl) g15) dX0_sumUp_51 (fun H locs hR hS => ?_)
      rw [← eh16] at hR
      refine lv_iinc (k := 2) (v := _ + 1) (lv' := [(2, .int (v2 + 1)), (0, .ref (oX O + 59)), (1, va_rf v1)]) hx hb dX0_sumUp_52 hl rfl (x_inc 1 1 rfl _) (Nat.le_of_ble_eq_true rfl) (by cases v1 <;> rfl) (fun ls hl => ?_)
      refine lv_goto (tgt := 18) hx hb dX0_sumUp_55 rfl ?_
      exact ih ls _ _ h16 _ _ kv1 (lv_sub hl [1, 2, 0] rfl) hR hS hf
set_option maxRecDepth 20000 in
theorem S_X0_sumUp {l : Launch} {O : XO} {K : XK} {h : XH} {v1 : Option Nat}  {h' : XH} (k1 : ∀ r, v1 = some r → K r = (11, 0)) (hf : f_X0_sumUp K (oX O) h v1 = some h') : x_M l O K yX0_sumUp cX0_sumUp 8 none 4 101 h [.ref (oX O + 59), va_rf v1] none h' := by
  refine x_enter (by decide) (by cases v1 <;> exact Nat.le_of_ble_eq_true rfl) (fun p e s m args below meth c C hR ls hl => ?_)
  have hS : va_S (oA O) s.heap s.heap [] := va_S.rf
  have hx := C.1
  have hb := C.2.1
  have hl : lv_has ls 8 [(0, .ref (oX O + 59)), (1, va_rf v1)] := by cases v1 <;> exact hl
  rw [f_X0_sumUp] at hf
  refine lv_aload_n hx hb dX0_sumUp_0 rfl (lv_at hl 0 rfl) ?_
  refine gf_0_4 C hR (x_k hR 59 rfl) tw_480 dX0_sumUp_1 ?_
  refine lv_iconst (v := 0) hx hb dX0_sumUp_4 rfl ?_
  obtain ⟨h1, eh1, hf⟩ := x_bd hf
  refine x_cSv2 C hR hS (S_J7_fill_53178 (x_k1 (x_k hR 62 rfl)) eh1) mf_J7_fill_53178 tw_571 (Nat.le_of_ble_eq_true rfl) (Nat.le_of_ble_eq_true rfl) hl.1 (Nat.le_of_ble_eq_true rfl) dX0_sumUp_5 ⟨Nat.le_refl _, Nat.le_refl _⟩ (fun H locs hR hS => ?_)
  refine lv_aload_n hx hb dX0_sumUp_8 rfl (lv_at hl 0 rfl) ?_
  refine gf_0_5 C hR (x_k hR 59 rfl) tw_481 dX0_sumUp_9 ?_
  refine lv_iconst (v := 0) hx hb dX0_sumUp_12 rfl ?_
  obtain ⟨h2, eh2, hf⟩ := x_bd hf
  refine x_cSv2 C hR hS (S_J7_fill_53178 (x_k1 (x_k hR 63 rfl)) eh2) mf_J7_fill_53178 tw_571 (Nat.le_of_ble_eq_true rfl) (Nat.le_of_ble_eq_true rfl) hl.1 (Nat.le_of_ble_eq_true rfl) dX0_sumUp_13 ⟨Nat.le_refl _, Nat.le_refl _⟩ (fun H locs hR hS => ?_)
  refine lv_iconst (v := 0) hx hb dX0_sumUp_16 rfl ?_
  refine lv_istore_n (lv' := [(2, .int 0), (0, .ref (oX O + 59)), (1, va_rf v1)]) hx hb dX0_sumUp_17 rfl hl (Nat.le_of_ble_eq_true rfl) (by cases v1 <;> rfl) (fun ls hl => ?_)
  exact B_X0_sumUp_18  C  x_FU ls _ _ h2 _ _ k1 (lv_sub hl [1, 2, 0] rfl) hR hS hf
def f_X5_heldNow (K : XK) (x : Nat) (h : XH) (v1 : Option Nat) (v2 : Int32) (v3 : Int32) : Option (Int32 × XH) := if x_b v2 8 = true then Option.bind (f_X2_placeOf ((x + 13) + 6 + 3 * v2.toNatClampNeg) h v3) (fun v_2 => Option.bind (f_X5_facePlace x h v2 (((x + 13) + 6 + 3 * v2.toNatClampNeg) + 1) v_2 (h.1 (x + 9) 7)) (fun h3 => Option.bind (f_X2_roleOf ((x + 13) + 6 + 3 * v2.toNatClampNeg) h3 v3) (fun v_4 => if x_b (((f_X2_cardAt ((x + 13) + 6 + 3 * v2.toNatClampNeg) h3 v3) * 3) + v_4) 156 = true then Option.bind (f_X5_heldWith K x h3 v1 v_4 (h3.1 (x + 10) (((f_X2_cardAt ((x + 13) + 6 + 3 * v2.toNatClampNeg) h3 v3) * 3) + v_4).toNatClampNeg)) (fun q6 => some (q6.1, q6.2)) else none))) else none
set_option maxRecDepth 20000 in
theorem S_X5_heldNow {l : Launch} {O : XO} {K : XK} {h : XH} {v1 : Option Nat} {v2 : Int32} {v3 : Int32}  {r : Int32} {h' : XH} (k1 : ∀ r, v1 = some r → K r = (11, 0)) (hf : f_X5_heldNow K (oX O) h v1 v2 v3 = some (r, h')) : x_M l O K yX5_heldNow cX5_heldNow 6 (some .int) 4 101 h [.ref (oX O + 46), va_rf v1, .int v2, .int v3] (some (.int r)) h' := by
  refine x_enter (by decide) (by cases v1 <;> exact Nat.le_of_ble_eq_true rfl) (fun p e s m args below meth c C hR ls hl => ?_)
  have hS : va_S (oA O) s.heap s.heap [] := va_S.rf
  have hx := C.1
  have hb := C.2.1
  have hl : lv_has ls 6 [(0, .ref (oX O + 46)), (1, va_rf v1), (2, .int v2), (3, .int v3)] := by cases v1 <;> exact hl
  rw [f_X5_heldNow] at hf
  refine lv_aload_n hx hb dX5_heldNow_0 rfl (lv_at hl 0 rfl) ?_
  refine gf_5_0 C hR (x_k hR 46 rfl) tw_390 dX5_heldNow_1 ?_
  refine gf_7_5 C hR (x_k hR 9 rfl) tw_302 dX5_heldNow_4 ?_
  refine lv_iload_n hx hb dX5_heldNow_7 rfl (lv_at hl 2 rfl) ?_
  obtain ⟨g1, hf⟩ := x_gd hf
  refine x_paald C hR (x_k1 (x_k hR 13 rfl)) (x_k2 (x_k hR 13 rfl) g1) dX5_heldNow_8 ?_
  refine lv_astore (lv' := [(4, _), (0, _), (1, _), (2, _), (3, _)]) hx hb dX5_heldNow_9 hl (Nat.le_of_ble_eq_true rfl) rfl (fun ls hl => ?_)
  refine lv_aload_n hx hb dX5_heldNow_11 rfl (lv_at hl 1 rfl) ?_
  refine lv_iload_n hx hb dX5_heldNow_12 rfl (lv_at hl 3 rfl) ?_
  refine lv_aload hx hb dX5_heldNow_13 (lv_at hl 0 rfl) ?_
  refine gf_2_4 C hR (x_kP hR (x_k hR 13 rfl) g1) tw_263 dX5_heldNow_15 ?_
  refine lv_aload hx hb dX5_heldNow_18 (lv_at hl 0 rfl) ?_
  refine lv_iload_n hx hb dX5_heldNow_20 rfl (lv_at hl 4 rfl) ?_
  obtain ⟨v_2, ev_2, hf⟩ := x_bd hf
  refine x_cVi1 C hR hS (S_X2_placeOf (x_kP hR (x_k hR 13 rfl) g1) ev_2) (x_kP hR (x_k hR 13 rfl) g1) (by decide) rfl mf_X2_placeOf tw_1111 (Nat.le_of_ble_eq_true rfl) (Nat.le_of_ble_eq_true rfl) hl.1 (Nat.le_of_ble_eq_true rfl) dX5_heldNow_21 ⟨Nat.le_refl _, Nat.le_refl _⟩ (fun H locs hR hS => ?_)
  refine lv_aload_n hx hb dX5_heldNow_24 rfl (lv_at hl 1 rfl) ?_
  refine gf_5_0 C hR (x_k hR 46 rfl) tw_390 dX5_heldNow_25 ?_
  refine gf_7_7 C hR (x_k hR 9 rfl) tw_310 dX5_heldNow_28 ?_
  obtain ⟨h3, eh3, hf⟩ := x_bd hf
  refine x_cVv4 C hR hS (S_X5_facePlace (kf_2_1 hR (x_kP hR (x_k hR 13 rfl) g1)) eh3) (x_k hR 46 rfl) (by decide) rfl mf_X5_facePlace tw_1112 (Nat.le_of_ble_eq_true rfl) (Nat.le_of_ble_eq_true rfl) hl.1 (Nat.le_of_ble_eq_true rfl) dX5_heldNow_31 ⟨Nat.le_refl _, Nat.le_refl _⟩ (fun H locs hR hS => ?_)
  refine lv_aload hx hb dX5_heldNow_34 (lv_at hl 0 rfl) ?_
  refine lv_iload_n hx hb dX5_heldNow_36 rfl (lv_at hl 4 rfl) ?_
  obtain ⟨v_4, ev_4, hf⟩ := x_bd hf
  refine x_cVi1 C hR hS (S_X2_roleOf (x_kP hR (x_k hR 13 rfl) g1) ev_4) (x_kP hR (x_k hR 13 rfl) g1) (by decide) rfl mf_X2_roleOf tw_1119 (Nat.le_of_ble_eq_true rfl) (Nat.le_of_ble_eq_true rfl) hl.1 (Nat.le_of_ble_eq_true rfl) dX5_heldNow_37 ⟨Nat.le_refl _, Nat.le_refl _⟩ (fun H locs hR hS => ?_)
  refine lv_istore (lv' := [(5, _), (4, _), (0, _), (1, _), (2, _), (3, _)]) hx hb dX5_heldNow_40 hl (Nat.le_of_ble_eq_true rfl) rfl (fun ls hl => ?_)
  refine lv_aload_n hx hb dX5_heldNow_42 rfl (lv_at hl 2 rfl) ?_
  refine x_aloadq_n hx hb dX5_heldNow_43 rfl (lv_at hl 3 rfl) ?_
  refine lv_iload hx hb dX5_heldNow_44 (lv_at hl 0 rfl) ?_
  refine lv_aload_n hx hb dX5_heldNow_46 rfl (lv_at hl 2 rfl) ?_
  refine gf_5_0 C hR (x_k hR 46 rfl) tw_390 dX5_heldNow_47 ?_
  refine gf_7_0 C hR (x_k hR 9 rfl) tw_286 dX5_heldNow_50 ?_
  refine lv_aload hx hb dX5_heldNow_53 (lv_at hl 1 rfl) ?_
  refine lv_iload_n hx hb dX5_heldNow_55 rfl (lv_at hl 5 rfl) ?_
  refine x_cVi1 C hR hS (S_X2_cardAt (x_kP hR (x_k hR 13 rfl) g1) rfl) (x_kP hR (x_k hR 13 rfl) g1) (by decide) rfl mf_X2_cardAt tw_1120 (Nat.le_of_ble_eq_true rfl) (Nat.le_of_ble_eq_true rfl) hl.1 (by cases v1 <;> exact Nat.le_of_ble_eq_true rfl) dX5_heldNow_56 ⟨Nat.le_refl _, Nat.le_refl _⟩ (fun H locs hR hS => ?_)
  refine lv_iconst (v := 3) hx hb dX5_heldNow_59 rfl ?_
  refine lv_imul hx hb dX5_heldNow_60 ?_
  refine lv_iload hx hb dX5_heldNow_61 (lv_at hl 0 rfl) ?_
  refine lv_iadd hx hb dX5_heldNow_63 ?_
  obtain ⟨g5, hf⟩ := x_gd hf
  refine x_iald C hR (x_k1 (x_k hR 10 rfl)) (x_k2 (x_k hR 10 rfl) g5) dX5_heldNow_64 ?_
  obtain ⟨q6, eq6, hf⟩ := x_bd hf
  refine x_cVi3 C hR hS (S_X5_heldWith k1 eq6) (x_k hR 46 rfl) (by decide) rfl mf_X5_heldWith tw_1121 (Nat.le_of_ble_eq_true rfl) (Nat.le_of_ble_eq_true rfl) hl.1 (Nat.le_of_ble_eq_true rfl) dX5_heldNow_65 ⟨Nat.le_refl _, Nat.le_refl _⟩ (fun H locs hR hS => ?_)
  cases hf
  exact x_iret C hR hS dX5_heldNow_68
def f_X5_sumBy_61 (k26 : XH → Option Nat → Int32 → Nat → Int32 → Nat → Int32 → Int32 → Int32 → Int32 → Option (Int32 × XH)) (K : XK) (x : Nat) (h : XH) (v1 : Option Nat) (v2 : Int32) (v3 : Nat) (v4 : Int32) (v5 : Nat) (v6 : Int32) (v7 : Int32) (v8 : Int32) (v9 : Int32) : Option (Int32 × XH) := if x_b (((f_X2_cardAt v5 h v9) * 3) + v7) 156 = true then Option.bind (f_X5_heldWith K x h v1 v7 (h.1 (x + 10) (((f_X2_cardAt v5 h v9) * 3) + v7).toNatClampNeg)) (fun q3 => k26 q3.2 v1 v2 v3 v4 v5 (v6 + q3.1) (v7 + 1) v8 (v9 + 1)) else none
def f_X5_sumBy_26 (K : XK) (x : Nat) : Nat → XH → Option Nat → Int32 → Nat → Int32 → Nat → Int32 → Int32 → Int32 → Int32 → Option (Int32 × XH)
  | 0, _, _, _, _, _, _, _, _, _, _ => none
  | n + 1, h, v1, v2, v3, v4, v5, v6, v7, v8, v9 => if (h.1 v5 2) ≤ v9 then some (v6, h) else if v7 < (h.1 v3 2) then f_X5_sumBy_61 (f_X5_sumBy_26 K x n) K x h v1 v2 v3 v4 v5 v6 v7 v8 v9 else Option.bind (f_X5_facePlace x h v2 v3 (v8 + 1) v4) (fun h4 => f_X5_sumBy_61 (f_X5_sumBy_26 K x n) K x h4 v1 v2 v3 v4 v5 v6 0 (v8 + 1) v9)
def f_X5_sumBy (K : XK) (x : Nat) (h : XH) (v1 : Option Nat) (v2 : Int32) (v3 : Nat) (v4 : Int32) : Option (Int32 × XH) := if x_b v2 8 = true then f_X5_sumBy_26 K x x_FU h v1 v2 v3 v4 ((x + 13) + 6 + 3 * v2.toNatClampNeg) 0 (h.1 v3 2) (-1) 0 else none
set_option maxRecDepth 20000 in
theorem B_X5_sumBy_61 {p : Program} {l : Launch} {e : Env} {s : State} {m : MethodId} {args : Array Value} {below : List Frame} {meth : Method} {c : Code} {O : XO} {K : XK} {r : Int32} {h' : XH}  {k26 : XH → Option Nat → Int32 → Nat → Int32 → Nat → Int32 → Int32 → Int32 → Int32 → Option (Int32 × XH)} (C : x_C p s m args meth c O cX5_sumBy 10 RX5 (some .int)) (hk26 : ∀ (ls : Array Slot) (H : Heap) (locs : List Loc) (h : XH) (v1 : Option Nat) (v2 : Int32) (v3 : Nat) (v4 : Int32) (v5 : Nat) (v6 : Int32) (v7 : Int32) (v8 : Int32) (v9 : Int32) (kv1 : ∀ r, v1 = some r → K r = (11, 0)) (kv3 : K v3 = (5, 0)) (kv5 : K v5 = (3, 0)), lv_has ls 10 [(0, .ref (oX O + 46)), (1, va_rf v1), (2, .int v2), (3, .ref v3), (4, .int v4), (5, .ref v5), (6, .int v6), (7, .int v7), (8, .int v8), (9, .int v9)] → x_R O K h H → va_S (oA O) s.heap H locs → k26 h v1 v2 v3 v4 v5 v6 v7 v8 v9 = some (r, h') → W p l e (x_rm 4 101) s m args below meth c H locs 0 0 (MQ below (x_Qc O K h' (some (.int r))) args s 0 0 (oA O)) (F0 m 26 ls []))  (ls : Array Slot) (H : Heap) (locs : List Loc) (h : XH) (v1 : Option Nat) (v2 : Int32) (v3 : Nat) (v4 : Int32) (v5 : Nat) (v6 : Int32) (v7 : Int32) (v8 : Int32) (v9 : Int32) (kv1 : ∀ r, v1 = some r → K r = (11, 0)) (kv3 : K v3 = (5, 0)) (kv5 : K v5 = (3, 0)) (hl : lv_has ls 10 [(0, .ref (oX O + 46)), (1, va_rf v1), (2, .int v2), (3, .ref v3), (4, .int v4), (5, .ref v5), (6, .int v6), (7, .int v7), (8, .int v8), (9, .int v9)]) (hR : x_R O K h H) (hS : va_S (oA O) s.heap H locs) (hf : f_X5_sumBy_61 k26 K (oX O) h v1 v2 v3 v4 v5 v6 v7 v8 v9 = some (r, h')) : W p l e (x_rm 4 101) s m args below meth c H locs 0 0 (MQ below (x_Qc O K h' (some (.int r))) args s 0 0 (oA O)) (F0 m 61 ls []) := by
  have hx := C.1
  have hb := C.2.1
  rw [f_X5_sumBy_61] at hf
  refine lv_iload hx hb dX5_sumBy_61 (lv_at hl 6 rfl) ?_
  refine lv_aload_n hx hb dX5_sumBy_63 rfl (lv_at hl 0 rfl) ?_
  refine x_aloadq_n hx hb dX5_sumBy_64 rfl (lv_at hl 1 rfl) ?_
  refine lv_iload hx hb dX5_sumBy_65 (lv_at hl 7 rfl) ?_
  refine lv_aload_n hx hb dX5_sumBy_67 rfl (lv_at hl 0 rfl) ?_
  refine gf_5_0 C hR (x_k hR 46 rfl) tw_390 dX5_sumBy_68 ?_
  refine gf_7_0 C hR (x_k hR 9 rfl) tw_286 dX5_sumBy_71 ?_
  refine lv_aload hx hb dX5_sumBy_74 (lv_at hl 5 rfl) ?_
  refine lv_iload hx hb dX5_sumBy_76 (lv_at hl 9 rfl) ?_
  refine x_cVi1 C hR hS (S_X2_cardAt kv5 rfl) kv5 (by decide) rfl mf_X2_cardAt tw_1120 (Nat.le_of_ble_eq_true rfl) (Nat.le_of_ble_eq_true rfl) hl.1 (by cases v1 <;> exact Nat.le_of_ble_eq_true rfl) dX5_sumBy_78 ⟨Nat.le_refl _, Nat.le_refl _⟩ (fun H locs hR hS => ?_)
  refine lv_iconst (v := 3) hx hb dX5_sumBy_81 rfl ?_
  refine lv_imul hx hb dX5_sumBy_82 ?_
  refine lv_iload hx hb dX5_sumBy_83 (lv_at hl 7 rfl) ?_
  refine lv_iadd hx hb dX5_sumBy_85 ?_
  obtain ⟨g2, hf⟩ := x_gd hf
  refine x_iald C hR (x_k1 (x_k hR 10 rfl)) (x_k2 (x_k hR 10 rfl) g2) dX5_sumBy_86 ?_
  obtain ⟨q3, eq3, hf⟩ := x_bd hf
  refine x_cVi3 C hR hS (S_X5_heldWith kv1 eq3) (x_k hR 46 rfl) (by decide) rfl mf_X5_heldWith tw_1121 (Nat.le_of_ble_eq_true rfl) (Nat.le_of_ble_eq_true rfl) hl.1 (Nat.le_of_ble_eq_true rfl) dX5_sumBy_87 ⟨Nat.le_refl _, Nat.le_refl _⟩ (fun H locs hR hS => ?_)
  refine lv_iadd hx hb dX5_sumBy_90 ?_
  refine lv_istore (lv' := [(6, _), (0, _), (1, _), (2, _), (3, _), (4, _), (5, _), (7, _), (8, _), (9, _)]) hx hb dX5_sumBy_91 hl (Nat.le_of_ble_eq_true rfl) rfl (fun ls hl => ?_)
  refine lv_iinc (k := 7) (v := _ + 1) (lv' := [(7, _), (6, _), (0, _), (1, _), (2, _), (3, _), (4, _), (5, _), (8, _), (9, _)]) hx hb dX5_sumBy_93 hl rfl (x_inc 1 1 rfl _) (Nat.le_of_ble_eq_true rfl) rfl (fun ls hl => ?_)
  refine lv_iinc (k := 9) (v := _ + 1) (lv' := [(9, _), (7, _), (6, _), (0, _), (1, _), (2, _), (3, _), (4, _), (5, _), (8, _)]) hx hb dX5_sumBy_96 hl rfl (x_inc 1 1 rfl _) (Nat.le_of_ble_eq_true rfl) rfl (fun ls hl => ?_)
  refine lv_goto (tgt := 26) hx hb dX5_sumBy_99 rfl ?_
  exact hk26 ls _ _ q3.2 _ _ _ _ _ _ _ _ _ kv1 kv3 kv5 (lv_sub hl [3, 4, 5, 6, 7, 8, 2, 1, 9, 0] rfl) hR hS hf
set_option maxRecDepth 20000 in
theorem B_X5_sumBy_26 {p : Program} {l : Launch} {e : Env} {s : State} {m : MethodId} {args : Array Value} {below : List Frame} {meth : Method} {c : Code} {O : XO} {K : XK} {r : Int32} {h' : XH}   (C : x_C p s m args meth c O cX5_sumBy 10 RX5 (some .int))   : ∀ (n : Nat) (ls : Array Slot) (H : Heap) (locs : List Loc) (h : XH) (v1 : Option Nat) (v2 : Int32) (v3 : Nat) (v4 : Int32) (v5 : Nat) (v6 : Int32) (v7 : Int32) (v8 : Int32) (v9 : Int32) (kv1 : ∀ r, v1 = some r → K r = (11, 0)) (kv3 : K v3 = (5, 0)) (kv5 : K v5 = (3, 0)) (hl : lv_has ls 10 [(0, .ref (oX O + 46)), (1, va_rf v1), (2, .int v2), (3, .ref v3), (4, .int v4), (5, .ref v5), (6, .int v6), (7, .int v7), (8, .int v8), (9, .int v9)]) (hR : x_R O K h H) (hS : va_S (oA O) s.heap H locs) (hf : f_X5_sumBy_26 K (oX O) n h v1 v2 v3 v4 v5 v6 v7 v8 v9 = some (r, h')), W p l e (x_rm 4 101) s m args below meth c H locs 0 0 (MQ below (x_Qc O K h' (some (.int r))) args s 0 0 (oA O)) (F0 m 26 ls []) := by
  have hx := C.1
  have hb := C.2.1
  intro n
  induction n with
  | zero =>
    intro ls H locs h v1 v2 v3 v4 v5 v6 v7 v8 v9 kv1 kv3 kv5 hl hR hS hf
    rw [f_X5_sumBy_26] at hf
    cases hf
  | succ n ih =>
    intro ls H locs h v1 v2 v3 v4 v5 v6 v7 v8 v9 kv1 kv3 kv5 hl hR hS hf
    rw [f_X5_sumBy_26] at hf
    refine lv_iload hx hb dX5_sumBy_26 (lv_at hl 9 rfl) ?_
    refine lv_aload hx hb dX5_sumBy_28 (lv_at hl 5 rfl) ?_
    refine gf_2_2 C hR kv5 tw_255 dX5_sumBy_30 ?_
    refine lv_icmp_ge (tgt := 102) hx hb dX5_sumBy_33 rfl (fun hc => ?_) (fun hc => ?_)
    · have hf := x_ip hc hf
      refine lv_iload hx hb dX5_sumBy_102 (lv_at hl 6 rfl) ?_
      cases hf
      exact x_iret C hR hS dX5_sumBy_104
    · have hf := x_in hc hf
      refine lv_iload hx hb dX5_sumBy_36 (lv_at hl 7 rfl) ?_
      refine lv_aload_n hx hb dX5_sumBy_38 rfl (lv_at hl 3 rfl) ?_
      refine gf_4_2 C hR kv3 tw_221 dX5_sumBy_39 ?_
      refine lv_icmp_lt (tgt := 61) hx hb dX5_sumBy_42 rfl (fun hc => ?_) (fun hc => ?_)
      · have hf := x_ip hc hf
        exact B_X5_sumBy_61  C ih  ls _ _ h _ _ _ _ _ _ _ _ _ kv1 kv3 kv5 (lv_sub hl [0, 1, 2, 3, 4, 5, 6, 7, 8, 9] rfl) hR hS hf
      · have hf := x_in hc hf
        refine lv_iconst (v := 0) hx hb dX5_sumBy_45 rfl ?_
        refine lv_istore (lv' := [(7, _), (0, _), (1, _), (2, _), (3, _), (4, _), (5, _), (6, _), (8, _), (9, _)]) hx hb dX5_sumBy_46 hl (Nat.le_of_ble_eq_true rfl) rfl (fun ls hl => ?_)
        refine lv_iinc (k := 8) (v := _ + 1) (lv' := [(8, _), (7, _), (0, _), (1, _), (2, _), (3, _), (4, _), (5, _), (6, _), (9, _)]) hx hb dX5_sumBy_48 hl rfl (x_inc 1 1 rfl _) (Nat.le_of_ble_eq_true rfl) rfl (fun ls hl => ?_)
        refine lv_aload_n hx hb dX5_sumBy_51 rfl (lv_at hl 2 rfl) ?_
        refine lv_iload_n hx hb dX5_sumBy_52 rfl (lv_at hl 4 rfl) ?_
        refine lv_aload_n hx hb dX5_sumBy_53 rfl (lv_at hl 5 rfl) ?_
        refine lv_iload hx hb dX5_sumBy_54 (lv_at hl 0 rfl) ?_
        refine lv_iload hx hb dX5_sumBy_56 (lv_at hl 6 rfl) ?_
        obtain ⟨h4, eh4, hf⟩ := x_bd hf
        refine x_cVv4 C hR hS (S_X5_facePlace kv3 eh4) (x_k hR 46 rfl) (by decide) rfl mf_X5_facePlace tw_1112 (Nat.le_of_ble_eq_true rfl) (Nat.le_of_ble_eq_true rfl) hl.1 (Nat.le_of_ble_eq_true rfl) dX5_sumBy_58 ⟨Nat.le_refl _, Nat.le_refl _⟩ (fun H locs hR hS => ?_)
        exact B_X5_sumBy_61  C ih  ls _ _ h4 _ _ _ _ _ _ _ _ _ kv1 kv3 kv5 (lv_sub hl [2, 3, 4, 5, 6, 7, 8, 1, 0, 9] rfl) hR hS hf
set_option maxRecDepth 20000 in
theorem S_X5_sumBy {l : Launch} {O : XO} {K : XK} {h : XH} {v1 : Option Nat} {v2 : Int32} {v3 : Nat} {v4 : Int32}  {r : Int32} {h' : XH} (k1 : ∀ r, v1 = some r → K r = (11, 0)) (k3 : K v3 = (5, 0)) (hf : f_X5_sumBy K (oX O) h v1 v2 v3 v4 = some (r, h')) : x_M l O K yX5_sumBy cX5_sumBy 10 (some .int) 4 101 h [.ref (oX O + 46), va_rf v1, .int v2, .ref v3, .int v4] (some (.int r)) h' := by
  refine x_enter (by decide) (by cases v1 <;> exact Nat.le_of_ble_eq_true rfl) (fun p e s m args below meth c C hR ls hl => ?_)
  have hS : va_S (oA O) s.heap s.heap [] := va_S.rf
  have hx := C.1
  have hb := C.2.1
  have hl : lv_has ls 10 [(0, .ref (oX O + 46)), (1, va_rf v1), (2, .int v2), (3, .ref v3), (4, .int v4)] := by cases v1 <;> exact hl
  rw [f_X5_sumBy] at hf
  refine lv_aload_n hx hb dX5_sumBy_0 rfl (lv_at hl 0 rfl) ?_
  refine gf_5_0 C hR (x_k hR 46 rfl) tw_390 dX5_sumBy_1 ?_
  refine gf_7_5 C hR (x_k hR 9 rfl) tw_302 dX5_sumBy_4 ?_
  refine lv_iload_n hx hb dX5_sumBy_7 rfl (lv_at hl 2 rfl) ?_
  obtain ⟨g1, hf⟩ := x_gd hf
  refine x_paald C hR (x_k1 (x_k hR 13 rfl)) (x_k2 (x_k hR 13 rfl) g1) dX5_sumBy_8 ?_
  refine lv_astore (lv' := [(5, _), (0, _), (1, _), (2, _), (3, _), (4, _)]) hx hb dX5_sumBy_9 hl (Nat.le_of_ble_eq_true rfl) rfl (fun ls hl => ?_)
  refine lv_iconst (v := 0) hx hb dX5_sumBy_11 rfl ?_
  refine lv_istore (lv' := [(6, _), (5, _), (0, _), (1, _), (2, _), (3, _), (4, _)]) hx hb dX5_sumBy_12 hl (Nat.le_of_ble_eq_true rfl) rfl (fun ls hl => ?_)
  refine lv_aload_n hx hb dX5_sumBy_14 rfl (lv_at hl 5 rfl) ?_
  refine gf_4_2 C hR k3 tw_221 dX5_sumBy_15 ?_
  refine lv_istore (lv' := [(7, _), (6, _), (5, _), (0, _), (1, _), (2, _), (3, _), (4, _)]) hx hb dX5_sumBy_18 hl (Nat.le_of_ble_eq_true rfl) rfl (fun ls hl => ?_)
  refine lv_iconst (v := (-1)) hx hb dX5_sumBy_20 rfl ?_
  refine lv_istore (lv' := [(8, _), (7, _), (6, _), (5, _), (0, _), (1, _), (2, _), (3, _), (4, _)]) hx hb dX5_sumBy_21 hl (Nat.le_of_ble_eq_true rfl) rfl (fun ls hl => ?_)
  refine lv_iconst (v := 0) hx hb dX5_sumBy_23 rfl ?_
  refine lv_istore (lv' := [(9, _), (8, _), (7, _), (6, _), (5, _), (0, _), (1, _), (2, _), (3, _), (4, _)]) hx hb dX5_sumBy_24 hl (Nat.le_of_ble_eq_true rfl) rfl (fun ls hl => ?_)
  exact B_X5_sumBy_26  C  x_FU ls _ _ h _ _ _ _ _ _ _ _ _ k1 k3 (x_kP hR (x_k hR 13 rfl) g1) (lv_sub hl [5, 6, 7, 8, 9, 4, 3, 2, 1, 0] rfl) hR hS hf
def f_X6_kindOf_47 (x : Nat) : Nat → XH → Int32 → Int32 → Option (Int32 × XH)
  | 0, _, _, _ => none
  | n + 1, h, v4, v5 => if 5 < v5 then some (6, h) else if x_b v5 6 = true then if (h.1 (x + 50) v5.toNatClampNeg) = v4 then some (v5, h) else f_X6_kindOf_47 x n h v4 (v5 + 1) else none
def f_X6_kindOf (x : Nat) (h : XH) (v1 : Int32) (v2 : Int32) : Option (Int32 × XH) := if x_b v1 8 = true then if x_b v2 52 = true then x_let ((h.1 (((x + 13) + 6 + 3 * v1.toNatClampNeg) + 2) v2.toNatClampNeg) : Int32) (fun t3 => if t3 = (f_X2_cardAt ((x + 13) + 6 + 3 * v1.toNatClampNeg) h v2) then some (0, h) else if t3 = (-1) then some (1, h) else Option.bind (f_X6_find x h v1 v2) (fun h4 => f_X6_kindOf_47 x x_FU h4 t3 2)) else none else none
set_option maxRecDepth 20000 in
theorem B_X6_kindOf_47 {p : Program} {l : Launch} {e : Env} {s : State} {m : MethodId} {args : Array Value} {below : List Frame} {meth : Method} {c : Code} {O : XO} {K : XK} {r : Int32} {h' : XH}   (C : x_C p s m args meth c O cX6_kindOf 6 RX6 (some .int))   : ∀ (n : Nat) (ls : Array Slot) (H : Heap) (locs : List Loc) (h : XH) (v4 : Int32) (v5 : Int32) (hl : lv_has ls 6 [(0, .ref (oX O + 49)), (4, .int v4), (5, .int v5)]) (hR : x_R O K h H) (hS : va_S (oA O) s.heap H locs) (hf : f_X6_kindOf_47 (oX O) n h v4 v5 = some (r, h')), W p l e (x_rm 4 100) s m args below meth c H locs 0 0 (MQ below (x_Qc O K h' (some (.int r))) args s 0 0 (oA O)) (F0 m 47 ls []) := by
  have hx := C.1
  have hb := C.2.1
  intro n
  induction n with
  | zero =>
    intro ls H locs h v4 v5 hl hR hS hf
    rw [f_X6_kindOf_47] at hf
    cases hf
  | succ n ih =>
    intro ls H locs h v4 v5 hl hR hS hf
    rw [f_X6_kindOf_47] at hf
    refine lv_iload hx hb dX6_kindOf_47 (lv_at hl 2 rfl) ?_
    refine lv_iconst (v := 5) hx hb dX6_kindOf_49 rfl ?_
    refine lv_icmp_gt (tgt := 74) hx hb dX6_kindOf_50 rfl (fun hc => ?_) (fun hc => ?_)
    · have hf := x_ip hc hf
      refine lv_bipush (v := 6) hx hb dX6_kindOf_74 rfl ?_
      cases hf
      exact x_iret C hR hS dX6_kindOf_76
    · have hf := x_in hc hf
      refine lv_aload_n hx hb dX6_kindOf_53 rfl (lv_at hl 0 rfl) ?_
      refine gf_6_1 C hR (x_k hR 49 rfl) tw_410 dX6_kindOf_54 ?_
      refine lv_iload hx hb dX6_kindOf_57 (lv_at hl 2 rfl) ?_
      obtain ⟨g5, hf⟩ := x_gd hf
      refine x_iald C hR (x_k1 (x_k hR 50 rfl)) (x_k2 (x_k hR 50 rfl) g5) dX6_kindOf_59 ?_
      refine lv_iload hx hb dX6_kindOf_60 (lv_at hl 1 rfl) ?_
      refine lv_icmp_ne (tgt := 68) hx hb dX6_kindOf_62 rfl (fun hc => ?_) (fun hc => ?_)
      · have hf := x_in hc hf
        refine lv_iinc (k := 2) (v := _ + 1) (lv' := [(5, _), (0, _), (4, _)]) hx hb dX6_kindOf_68 hl rfl (x_inc 1 1 rfl _) (Nat.le_of_ble_eq_true rfl) rfl (fun ls hl => ?_)
        refine lv_goto (tgt := 47) hx hb dX6_kindOf_71 rfl ?_
        exact ih ls _ _ h _ _  (lv_sub hl [1, 2, 0] rfl) hR hS hf
      · have hf := x_ip hc hf
        refine lv_iload hx hb dX6_kindOf_65 (lv_at hl 2 rfl) ?_
        cases hf
        exact x_iret C hR hS dX6_kindOf_67
set_option maxRecDepth 20000 in
theorem S_X6_kindOf {l : Launch} {O : XO} {K : XK} {h : XH} {v1 : Int32} {v2 : Int32}  {r : Int32} {h' : XH}  (hf : f_X6_kindOf (oX O) h v1 v2 = some (r, h')) : x_M l O K yX6_kindOf cX6_kindOf 6 (some .int) 4 100 h [.ref (oX O + 49), .int v1, .int v2] (some (.int r)) h' := by
  refine x_enter (by decide) (Nat.le_of_ble_eq_true rfl) (fun p e s m args below meth c C hR ls hl => ?_)
  have hS : va_S (oA O) s.heap s.heap [] := va_S.rf
  have hx := C.1
  have hb := C.2.1
  have hl : lv_has ls 6 [(0, .ref (oX O + 49)), (1, .int v1), (2, .int v2)] := hl
  rw [f_X6_kindOf] at hf
  refine lv_aload_n hx hb dX6_kindOf_0 rfl (lv_at hl 0 rfl) ?_
  refine gf_6_0 C hR (x_k hR 49 rfl) tw_409 dX6_kindOf_1 ?_
  refine gf_7_5 C hR (x_k hR 9 rfl) tw_303 dX6_kindOf_4 ?_
  refine lv_iload_n hx hb dX6_kindOf_7 rfl (lv_at hl 1 rfl) ?_
  obtain ⟨g1, hf⟩ := x_gd hf
  refine x_paald C hR (x_k1 (x_k hR 13 rfl)) (x_k2 (x_k hR 13 rfl) g1) dX6_kindOf_8 ?_
  refine lv_astore_n (lv' := [(3, _), (0, _), (1, _), (2, _)]) hx hb dX6_kindOf_9 rfl hl (Nat.le_of_ble_eq_true rfl) rfl (fun ls hl => ?_)
  refine lv_aload_n hx hb dX6_kindOf_10 rfl (lv_at hl 0 rfl) ?_
  refine gf_2_5 C hR (x_kP hR (x_k hR 13 rfl) g1) tw_268 dX6_kindOf_11 ?_
  refine lv_iload_n hx hb dX6_kindOf_14 rfl (lv_at hl 3 rfl) ?_
  obtain ⟨g2, hf⟩ := x_gd hf
  refine x_iald C hR (x_k1 (kf_2_2 hR (x_kP hR (x_k hR 13 rfl) g1))) (x_k2 (kf_2_2 hR (x_kP hR (x_k hR 13 rfl) g1)) g2) dX6_kindOf_15 ?_
  obtain ⟨t3, et3, hf⟩ := x_lt hf
  refine x_nmi et3 ?_
  refine lv_istore (lv' := [(4, _), (3, _), (0, _), (1, _), (2, _)]) hx hb dX6_kindOf_16 hl (Nat.le_of_ble_eq_true rfl) rfl (fun ls hl => ?_)
  refine lv_iload hx hb dX6_kindOf_18 (lv_at hl 0 rfl) ?_
  refine lv_aload_n hx hb dX6_kindOf_20 rfl (lv_at hl 1 rfl) ?_
  refine lv_iload_n hx hb dX6_kindOf_21 rfl (lv_at hl 4 rfl) ?_
  refine x_cVi1 C hR hS (S_X2_cardAt (x_kP hR (x_k hR 13 rfl) g1) rfl) (x_kP hR (x_k hR 13 rfl) g1) (by decide) rfl mf_X2_cardAt tw_1165 (Nat.le_of_ble_eq_true rfl) (Nat.le_of_ble_eq_true rfl) hl.1 (Nat.le_of_ble_eq_true rfl) dX6_kindOf_22 ⟨Nat.le_refl _, Nat.le_refl _⟩ (fun H locs hR hS => ?_)
  refine lv_icmp_ne (tgt := 30) hx hb dX6_kindOf_25 rfl (fun hc => ?_) (fun hc => ?_)
  · have hf := x_in hc hf
    refine lv_iload hx hb dX6_kindOf_30 (lv_at hl 0 rfl) ?_
    refine lv_iconst (v := (-1)) hx hb dX6_kindOf_32 rfl ?_
    refine lv_icmp_ne (tgt := 38) hx hb dX6_kindOf_33 rfl (fun hc => ?_) (fun hc => ?_)
    · have hf := x_in hc hf
      refine lv_aload_n hx hb dX6_kindOf_38 rfl (lv_at hl 2 rfl) ?_
      refine lv_iload_n hx hb dX6_kindOf_39 rfl (lv_at hl 3 rfl) ?_
      refine lv_iload_n hx hb dX6_kindOf_40 rfl (lv_at hl 4 rfl) ?_
      obtain ⟨h4, eh4, hf⟩ := x_bd hf
      refine x_cVv2 C hR hS (S_X6_find  eh4) (x_k hR 49 rfl) (by decide) rfl mf_X6_find tw_1166 (Nat.le_of_ble_eq_true rfl) (Nat.le_of_ble_eq_true rfl) hl.1 (Nat.le_of_ble_eq_true rfl) dX6_kindOf_41 ⟨Nat.le_refl _, Nat.le_refl _⟩ (fun H locs hR hS => ?_)
      refine lv_iconst (v := 2) hx hb dX6_kindOf_44 rfl ?_
      refine lv_istore (lv' := [(5, _), (4, _), (3, _), (0, _), (1, _), (2, _)]) hx hb dX6_kindOf_45 hl (Nat.le_of_ble_eq_true rfl) rfl (fun ls hl => ?_)
      exact B_X6_kindOf_47  C  x_FU ls _ _ h4 _ _  (lv_sub hl [3, 1, 0] rfl) hR hS hf
    · have hf := x_ip hc hf
      refine lv_iconst (v := 1) hx hb dX6_kindOf_36 rfl ?_
      cases hf
      exact x_iret C hR hS dX6_kindOf_37
  · have hf := x_ip hc hf
    refine lv_iconst (v := 0) hx hb dX6_kindOf_28 rfl ?_
    cases hf
    exact x_iret C hR hS dX6_kindOf_29
def f_X6_drawn_21 (x : Nat) : Nat → XH → Int32 → Int32 → Option (Int32 × XH)
  | 0, _, _, _ => none
  | n + 1, h, v4, v5 => if 5 < v5 then some ((-1), h) else Option.bind (f_X6_weightOf x h v5) (fun v_5 => if v_5 ≤ v4 then f_X6_drawn_21 x n h (v4 - v_5) (v5 + 1) else if x_b v5 6 = true then some ((h.1 (x + 50) v5.toNatClampNeg), h) else none)
def f_X6_drawn (x : Nat) (h : XH) (v1 : Int32) (v2 : Int32) (v3 : Int32) : Option (Int32 × XH) := Option.bind (f_X6_find x h v1 v2) (fun h1 => Option.bind (f_X6_allWeights x h1) (fun v_2 => if (f_J9_max_7cf53 h1 1 v_2) = 0 then none else x_let ((x_rem v3 (f_J9_max_7cf53 h1 1 v_2)) : Int32) (fun t4 => f_X6_drawn_21 x x_FU h1 t4 2)))
set_option maxRecDepth 20000 in
theorem B_X6_drawn_21 {p : Program} {l : Launch} {e : Env} {s : State} {m : MethodId} {args : Array Value} {below : List Frame} {meth : Method} {c : Code} {O : XO} {K : XK} {r : Int32} {h' : XH}   (C : x_C p s m args meth c O cX6_drawn 7 RX6 (some .int))   : ∀ (n : Nat) (ls : Array Slot) (H : Heap) (locs : List Loc) (h : XH) (v4 : Int32) (v5 : Int32) (hl : lv_has ls 7 [(0, .ref (oX O + 49)), (4, .int v4), (5, .int v5)]) (hR : x_R O K h H) (hS : va_S (oA O) s.heap H locs) (hf : f_X6_drawn_21 (oX O) n h v4 v5 = some (r, h')), W p l e (x_rm 4 100) s m args below meth c H locs 0 0 (MQ below (x_Qc O K h' (some (.int r))) args s 0 0 (oA O)) (F0 m 21 ls []) := by
  have hx := C.1
  have hb := C.2.1
  intro n
  induction n with
  | zero =>
    intro ls H locs h v4 v5 hl hR hS hf
    rw [f_X6_drawn_21] at hf
    cases hf
  | succ n ih =>
    intro ls H locs h v4 v5 hl hR hS hf
    rw [f_X6_drawn_21] at hf
    refine lv_iload hx hb dX6_drawn_21 (lv_at hl 2 rfl) ?_
    refine lv_iconst (v := 5) hx hb dX6_drawn_23 rfl ?_
    refine lv_icmp_gt (tgt := 63) hx hb dX6_drawn_24 rfl (fun hc => ?_) (fun hc => ?_)
    · have hf := x_ip hc hf
      refine lv_iconst (v := (-1)) hx hb dX6_drawn_63 rfl ?_
      cases hf
      exact x_iret C hR hS dX6_drawn_64
    · have hf := x_in hc hf
      refine lv_aload_n hx hb dX6_drawn_27 rfl (lv_at hl 0 rfl) ?_
      refine lv_iload hx hb dX6_drawn_28 (lv_at hl 2 rfl) ?_
      obtain ⟨v_5, ev_5, hf⟩ := x_bd hf
      refine x_cVi1 C hR hS (S_X6_weightOf  ev_5) (x_k hR 49 rfl) (by decide) rfl mf_X6_weightOf tw_1225 (Nat.le_of_ble_eq_true rfl) (Nat.le_of_ble_eq_true rfl) hl.1 (Nat.le_of_ble_eq_true rfl) dX6_drawn_30 ⟨Nat.le_refl _, Nat.le_refl _⟩ (fun H locs hR hS => ?_)
      refine lv_istore (lv' := [(6, _), (0, _), (4, _), (5, _)]) hx hb dX6_drawn_33 hl (Nat.le_of_ble_eq_true rfl) rfl (fun ls hl => ?_)
      refine lv_iload hx hb dX6_drawn_35 (lv_at hl 2 rfl) ?_
      refine lv_iload hx hb dX6_drawn_37 (lv_at hl 0 rfl) ?_
      refine lv_icmp_ge (tgt := 50) hx hb dX6_drawn_39 rfl (fun hc => ?_) (fun hc => ?_)
      · have hf := x_ip hc hf
        refine lv_iload hx hb dX6_drawn_50 (lv_at hl 2 rfl) ?_
        refine lv_iload hx hb dX6_drawn_52 (lv_at hl 0 rfl) ?_
        refine lv_isub hx hb dX6_drawn_54 ?_
        refine lv_istore (lv' := [(4, _), (6, _), (0, _), (5, _)]) hx hb dX6_drawn_55 hl (Nat.le_of_ble_eq_true rfl) rfl (fun ls hl => ?_)
        refine lv_iinc (k := 3) (v := _ + 1) (lv' := [(5, _), (4, _), (6, _), (0, _)]) hx hb dX6_drawn_57 hl rfl (x_inc 1 1 rfl _) (Nat.le_of_ble_eq_true rfl) rfl (fun ls hl => ?_)
        refine lv_goto (tgt := 21) hx hb dX6_drawn_60 rfl ?_
        exact ih ls _ _ h _ _  (lv_sub hl [3, 1, 0] rfl) hR hS hf
      · have hf := x_in hc hf
        refine lv_aload_n hx hb dX6_drawn_42 rfl (lv_at hl 1 rfl) ?_
        refine gf_6_1 C hR (x_k hR 49 rfl) tw_410 dX6_drawn_43 ?_
        refine lv_iload hx hb dX6_drawn_46 (lv_at hl 3 rfl) ?_
        obtain ⟨g6, hf⟩ := x_gd hf
        refine x_iald C hR (x_k1 (x_k hR 50 rfl)) (x_k2 (x_k hR 50 rfl) g6) dX6_drawn_48 ?_
        cases hf
        exact x_iret C hR hS dX6_drawn_49
set_option maxRecDepth 20000 in
theorem S_X6_drawn {l : Launch} {O : XO} {K : XK} {h : XH} {v1 : Int32} {v2 : Int32} {v3 : Int32}  {r : Int32} {h' : XH}  (hf : f_X6_drawn (oX O) h v1 v2 v3 = some (r, h')) : x_M l O K yX6_drawn cX6_drawn 7 (some .int) 4 100 h [.ref (oX O + 49), .int v1, .int v2, .int v3] (some (.int r)) h' := by
  refine x_enter (by decide) (Nat.le_of_ble_eq_true rfl) (fun p e s m args below meth c C hR ls hl => ?_)
  have hS : va_S (oA O) s.heap s.heap [] := va_S.rf
  have hx := C.1
  have hb := C.2.1
  have hl : lv_has ls 7 [(0, .ref (oX O + 49)), (1, .int v1), (2, .int v2), (3, .int v3)] := hl
  rw [f_X6_drawn] at hf
  refine lv_aload_n hx hb dX6_drawn_0 rfl (lv_at hl 0 rfl) ?_
  refine lv_iload_n hx hb dX6_drawn_1 rfl (lv_at hl 1 rfl) ?_
  refine lv_iload_n hx hb dX6_drawn_2 rfl (lv_at hl 2 rfl) ?_
  obtain ⟨h1, eh1, hf⟩ := x_bd hf
  refine x_cVv2 C hR hS (S_X6_find  eh1) (x_k hR 49 rfl) (by decide) rfl mf_X6_find tw_1166 (Nat.le_of_ble_eq_true rfl) (Nat.le_of_ble_eq_true rfl) hl.1 (Nat.le_of_ble_eq_true rfl) dX6_drawn_3 ⟨Nat.le_refl _, Nat.le_refl _⟩ (fun H locs hR hS => ?_)
  refine lv_iload_n hx hb dX6_drawn_6 rfl (lv_at hl 3 rfl) ?_
  refine lv_iconst (v := 1) hx hb dX6_drawn_7 rfl ?_
  refine lv_aload_n hx hb dX6_drawn_8 rfl (lv_at hl 0 rfl) ?_
  obtain ⟨v_2, ev_2, hf⟩ := x_bd hf
  refine x_cVi0 C hR hS (S_X6_allWeights  ev_2) (x_k hR 49 rfl) (by decide) rfl mf_X6_allWeights tw_1221 (Nat.le_of_ble_eq_true rfl) (Nat.le_of_ble_eq_true rfl) hl.1 (Nat.le_of_ble_eq_true rfl) dX6_drawn_9 ⟨Nat.le_refl _, Nat.le_refl _⟩ (fun H locs hR hS => ?_)
  refine x_cSi2 C hR hS (S_J9_max_7cf53  rfl) mf_J9_max_7cf53 tw_1231 (Nat.le_of_ble_eq_true rfl) (Nat.le_of_ble_eq_true rfl) hl.1 (Nat.le_of_ble_eq_true rfl) dX6_drawn_12 ⟨Nat.le_refl _, Nat.le_refl _⟩ (fun H locs hR hS => ?_)
  obtain ⟨g3, hf⟩ := x_gn hf
  refine lv_irem hx hb dX6_drawn_15 g3 ?_
  obtain ⟨t4, et4, hf⟩ := x_lt hf
  refine x_nmi et4 ?_
  refine lv_istore (lv' := [(4, _), (0, _), (1, _), (2, _), (3, _)]) hx hb dX6_drawn_16 hl (Nat.le_of_ble_eq_true rfl) rfl (fun ls hl => ?_)
  refine lv_iconst (v := 2) hx hb dX6_drawn_18 rfl ?_
  refine lv_istore (lv' := [(5, _), (4, _), (0, _), (1, _), (2, _), (3, _)]) hx hb dX6_drawn_19 hl (Nat.le_of_ble_eq_true rfl) rfl (fun ls hl => ?_)
  exact B_X6_drawn_21  C  x_FU ls _ _ h1 _ _  (lv_sub hl [2, 1, 0] rfl) hR hS hf
