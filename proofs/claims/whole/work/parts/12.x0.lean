def f_X11_feed (x : Nat) (h : XH) (v1 : Int32) (v2 : Int32) (v3 : Int32) (v4 : Int32) (v5 : Int32) : Option (Int32 × XH) := if (f_X8_hasRoomForFive x h) = 0 then some ((-1), h) else Option.bind (f_X8_addNumber x h v1) (fun h1 => Option.bind (f_X8_addNumber x h1 v2) (fun h2 => Option.bind (f_X8_addNumber x h2 v3) (fun h3 => Option.bind (f_X8_addNumber x h3 v4) (fun h4 => Option.bind (f_X8_addNumber x h4 v5) (fun h5 => some ((h5.1 (x + 1) 1), h5))))))
set_option maxRecDepth 20000 in
theorem S_X11_feed {l : Launch} {O : XO} {K : XK} {h : XH} {v1 : Int32} {v2 : Int32} {v3 : Int32} {v4 : Int32} {v5 : Int32}  {r : Int32} {h' : XH}  (hf : f_X11_feed (oX O) h v1 v2 v3 v4 v5 = some (r, h')) : x_M l O K yX11_feed cX11_feed 6 (some .int) 1 22 h [.ref (oX O), .int v1, .int v2, .int v3, .int v4, .int v5] (some (.int r)) h' := by
  refine x_enter (by decide) (Nat.le_of_ble_eq_true rfl) (fun p e s m args below meth c C hR ls hl => ?_)
  have hS : va_S (oA O) s.heap s.heap [] := va_S.rf
  have hx := C.1
  have hb := C.2.1
  have hl : lv_has ls 6 [(0, .ref (oX O)), (1, .int v1), (2, .int v2), (3, .int v3), (4, .int v4), (5, .int v5)] := hl
  rw [f_X11_feed] at hf
  refine lv_aload_n hx hb dX11_feed_0 rfl (lv_at hl 0 rfl) ?_
  refine gf_11_0 C hR (x_k hR 0 rfl) tw_495 dX11_feed_1 ?_
  refine x_cVi0 C hR hS (S_X8_hasRoomForFive  rfl) (x_k hR 1 rfl) (by decide) rfl mf_X8_hasRoomForFive tw_527 (Nat.le_of_ble_eq_true rfl) (Nat.le_of_ble_eq_true rfl) hl.1 (Nat.le_of_ble_eq_true rfl) dX11_feed_4 ⟨Nat.le_refl _, Nat.le_refl _⟩ (fun H locs hR hS => ?_)
  refine lv_if_ne (tgt := 12) hx hb dX11_feed_7 rfl (fun hc => ?_) (fun hc => ?_)
  · have hf := x_in hc hf
    refine lv_aload_n hx hb dX11_feed_12 rfl (lv_at hl 0 rfl) ?_
    refine gf_11_0 C hR (x_k hR 0 rfl) tw_495 dX11_feed_13 ?_
    refine lv_iload_n hx hb dX11_feed_16 rfl (lv_at hl 1 rfl) ?_
    obtain ⟨h1, eh1, hf⟩ := x_bd hf
    refine x_cVv1 C hR hS (S_X8_addNumber  eh1) (x_k hR 1 rfl) (by decide) rfl mf_X8_addNumber tw_531 (Nat.le_of_ble_eq_true rfl) (Nat.le_of_ble_eq_true rfl) hl.1 (Nat.le_of_ble_eq_true rfl) dX11_feed_17 ⟨Nat.le_refl _, Nat.le_refl _⟩ (fun H locs hR hS => ?_)
    refine lv_aload_n hx hb dX11_feed_20 rfl (lv_at hl 0 rfl) ?_
    refine gf_11_0 C hR (x_k hR 0 rfl) tw_495 dX11_feed_21 ?_
    refine lv_iload_n hx hb dX11_feed_24 rfl (lv_at hl 2 rfl) ?_
    obtain ⟨h2, eh2, hf⟩ := x_bd hf
    refine x_cVv1 C hR hS (S_X8_addNumber  eh2) (x_k hR 1 rfl) (by decide) rfl mf_X8_addNumber tw_531 (Nat.le_of_ble_eq_true rfl) (Nat.le_of_ble_eq_true rfl) hl.1 (Nat.le_of_ble_eq_true rfl) dX11_feed_25 ⟨Nat.le_refl _, Nat.le_refl _⟩ (fun H locs hR hS => ?_)
    refine lv_aload_n hx hb dX11_feed_28 rfl (lv_at hl 0 rfl) ?_
    refine gf_11_0 C hR (x_k hR 0 rfl) tw_495 dX11_feed_29 ?_
    refine lv_iload_n hx hb dX11_feed_32 rfl (lv_at hl 3 rfl) ?_
    obtain ⟨h3, eh3, hf⟩ := x_bd hf
    refine x_cVv1 C hR hS (S_X8_addNumber  eh3) (x_k hR 1 rfl) (by decide) rfl mf_X8_addNumber tw_531 (Nat.le_of_ble_eq_true rfl) (Nat.le_of_ble_eq_true rfl) hl.1 (Nat.le_of_ble_eq_true rfl) dX11_feed_33 ⟨Nat.le_refl _, Nat.le_refl _⟩ (fun H locs hR hS => ?_)
    refine lv_aload_n hx hb dX11_feed_36 rfl (lv_at hl 0 rfl) ?_
    refine gf_11_0 C hR (x_k hR 0 rfl) tw_495 dX11_feed_37 ?_
    refine lv_iload hx hb dX11_feed_40 (lv_at hl 4 rfl) ?_
    obtain ⟨h4, eh4, hf⟩ := x_bd hf
    refine x_cVv1 C hR hS (S_X8_addNumber  eh4) (x_k hR 1 rfl) (by decide) rfl mf_X8_addNumber tw_531 (Nat.le_of_ble_eq_true rfl) (Nat.le_of_ble_eq_true rfl) hl.1 (Nat.le_of_ble_eq_true rfl) dX11_feed_42 ⟨Nat.le_refl _, Nat.le_refl _⟩ (fun H locs hR hS => ?_)
    refine lv_aload_n hx hb dX11_feed_45 rfl (lv_at hl 0 rfl) ?_
    refine gf_11_0 C hR (x_k hR 0 rfl) tw_495 dX11_feed_46 ?_
    refine lv_iload hx hb dX11_feed_49 (lv_at hl 5 rfl) ?_
    obtain ⟨h5, eh5, hf⟩ := x_bd hf
    refine x_cVv1 C hR hS (S_X8_addNumber  eh5) (x_k hR 1 rfl) (by decide) rfl mf_X8_addNumber tw_531 (Nat.le_of_ble_eq_true rfl) (Nat.le_of_ble_eq_true rfl) hl.1 (Nat.le_of_ble_eq_true rfl) dX11_feed_51 ⟨Nat.le_refl _, Nat.le_refl _⟩ (fun H locs hR hS => ?_)
    refine lv_aload_n hx hb dX11_feed_54 rfl (lv_at hl 0 rfl) ?_
    refine gf_11_0 C hR (x_k hR 0 rfl) tw_495 dX11_feed_55 ?_
    refine gf_8_1 C hR (x_k hR 1 rfl) tw_151 dX11_feed_58 ?_
    cases hf
    exact x_iret C hR hS dX11_feed_61
  · have hf := x_ip hc hf
    refine lv_iconst (v := (-1)) hx hb dX11_feed_10 rfl ?_
    cases hf
    exact x_iret C hR hS dX11_feed_11
def f_X11_end_15 (x : Nat) (h : XH) : Int32 × XH := (0, h)
def f_X11_end (x : Nat) (h : XH) (v1 : Int32) : Int32 × XH := if v1 < 0 then f_X11_end_15 x h else if v1 ≤ (h.1 (x + 1) 1) then x_let (x_i h (x + 1) 1 v1) (fun h1 => (1, h1)) else f_X11_end_15 x h
set_option maxRecDepth 20000 in
theorem B_X11_end_15 {p : Program} {l : Launch} {e : Env} {s : State} {m : MethodId} {args : Array Value} {below : List Frame} {meth : Method} {c : Code} {O : XO} {K : XK} {r : Int32} {h' : XH}   (C : x_C p s m args meth c O cX11_end 2 RX11 (some .boolean))   (ls : Array Slot) (H : Heap) (locs : List Loc) (h : XH) (hl : lv_has ls 2 []) (hR : x_R O K h H) (hS : va_S (oA O) s.heap H locs) (hf : f_X11_end_15 (oX O) h = (r, h')) : W p l e (x_rm 0 0) s m args below meth c H locs 0 0 (MQ below (x_Qc O K h' (some (.int r))) args s 0 0 (oA O)) (F0 m 15 ls []) := by
  have hx := C.1
  have hb := C.2.1
  rw [f_X11_end_15] at hf
  refine lv_iconst (v := 0) hx hb dX11_end_15 rfl ?_
  cases hf
  exact x_zret C hR hS (Or.inl rfl) dX11_end_16
set_option maxRecDepth 20000 in
theorem S_X11_end {l : Launch} {O : XO} {K : XK} {h : XH} {v1 : Int32}  {r : Int32} {h' : XH}  (hf : f_X11_end (oX O) h v1 = (r, h')) : x_M l O K yX11_end cX11_end 2 (some .boolean) 0 0 h [.ref (oX O), .int v1] (some (.int r)) h' := by
  refine x_enter (by decide) (Nat.le_of_ble_eq_true rfl) (fun p e s m args below meth c C hR ls hl => ?_)
  have hS : va_S (oA O) s.heap s.heap [] := va_S.rf
  have hx := C.1
  have hb := C.2.1
  have hl : lv_has ls 2 [(0, .ref (oX O)), (1, .int v1)] := hl
  rw [f_X11_end] at hf
  refine lv_iload_n hx hb dX11_end_0 rfl (lv_at hl 1 rfl) ?_
  refine lv_if_lt (tgt := 15) hx hb dX11_end_1 rfl (fun hc => ?_) (fun hc => ?_)
  · have hf := x_ip hc hf
    exact B_X11_end_15  C   ls _ _ h  (lv_sub hl [] rfl) hR hS hf
  · have hf := x_in hc hf
    refine lv_iload_n hx hb dX11_end_4 rfl (lv_at hl 1 rfl) ?_
    refine lv_aload_n hx hb dX11_end_5 rfl (lv_at hl 0 rfl) ?_
    refine gf_11_0 C hR (x_k hR 0 rfl) tw_495 dX11_end_6 ?_
    refine gf_8_1 C hR (x_k hR 1 rfl) tw_151 dX11_end_9 ?_
    refine lv_icmp_le (tgt := 17) hx hb dX11_end_12 rfl (fun hc => ?_) (fun hc => ?_)
    · have hf := x_ip hc hf
      refine lv_aload_n hx hb dX11_end_17 rfl (lv_at hl 0 rfl) ?_
      refine gf_11_0 C hR (x_k hR 0 rfl) tw_495 dX11_end_18 ?_
      refine lv_iload_n hx hb dX11_end_21 rfl (lv_at hl 1 rfl) ?_
      obtain ⟨h1, eh1, hf⟩ := x_lt hf
      refine pf_8_1 C hR hS (x_k hR 1 rfl) tw_151 dX11_end_22 (fun H locs hR hS => ?_)
      rw [← eh1] at hR
      refine lv_iconst (v := 1) hx hb dX11_end_25 rfl ?_
      cases hf
      exact x_zret C hR hS (Or.inr rfl) dX11_end_26
    · have hf := x_in hc hf
      exact B_X11_end_15  C   ls _ _ h  (lv_sub hl [] rfl) hR hS hf
def f_X11_fault (x : Nat) (h : XH) : Int32 := (h.1 (x + 1) 8)
set_option maxRecDepth 20000 in
theorem S_X11_fault {l : Launch} {O : XO} {K : XK} {h : XH}  {r : Int32}  (hf : f_X11_fault (oX O) h = r) : x_M l O K yX11_fault cX11_fault 1 (some .int) 0 0 h [.ref (oX O)] (some (.int r)) h := by
  refine x_enter (by decide) (Nat.le_of_ble_eq_true rfl) (fun p e s m args below meth c C hR ls hl => ?_)
  have hS : va_S (oA O) s.heap s.heap [] := va_S.rf
  have hx := C.1
  have hb := C.2.1
  have hl : lv_has ls 1 [(0, .ref (oX O))] := hl
  rw [f_X11_fault] at hf
  refine lv_aload_n hx hb dX11_fault_0 rfl (lv_at hl 0 rfl) ?_
  refine gf_11_0 C hR (x_k hR 0 rfl) tw_495 dX11_fault_1 ?_
  refine gf_8_8 C hR (x_k hR 1 rfl) tw_159 dX11_fault_4 ?_
  cases hf
  exact x_iret C hR hS dX11_fault_7
def f_X11_dull_19 (x : Nat) (h : XH) : Option ((Nat ⊕ Int32) × XH) := some (.inl 0, h)
def f_X11_dull_39 (x : Nat) (h : XH) : Option ((Nat ⊕ Int32) × XH) := some (.inl 1, h)
def f_X11_dull (x : Nat) (h : XH) (v1 : Int32) (v2 : Int32) (v3 : Int32) : Option ((Nat ⊕ Int32) × XH) := if v1 < 0 then f_X11_dull_19 x h else if 52 ≤ v1 then f_X11_dull_19 x h else if v2 < 0 then f_X11_dull_19 x h else if v2 < 3 then if v3 < 0 then f_X11_dull_39 x h else if v3 < 10 then if x_b ((v1 * 3) + v2) 156 = true then x_let ((h.1 (x + 10) ((v1 * 3) + v2).toNatClampNeg) : Int32) (fun t2 => if x_b ((v1 * 3) + v2) 156 = true then x_let (x_i h (x + 10) ((v1 * 3) + v2).toNatClampNeg v3) (fun h4 => some (.inr t2, h4)) else none) else none else f_X11_dull_39 x h else f_X11_dull_19 x h
set_option maxRecDepth 20000 in
theorem B_X11_dull_19 {p : Program} {l : Launch} {e : Env} {s : State} {m : MethodId} {args : Array Value} {below : List Frame} {meth : Method} {c : Code} {O : XO} {K : XK} {r : Nat ⊕ Int32} {h' : XH}   (C : x_C p s m args meth c O cX11_dull 5 RX11 (some .int))   (hst : l.stackTraces = false) (ls : Array Slot) (H : Heap) (locs : List Loc) (h : XH) (hl : lv_has ls 5 []) (hR : x_R O K h H) (hS : va_S (oA O) s.heap H locs) (hf : f_X11_dull_19 (oX O) h = some (r, h')) : W p l e (x_rmX 6 90 1 6) s m args below meth c H locs 0 0 (vx_MQ below (x_XQ O K h' (x_rv x_gi r)) (x_XX O K h' (x_rv x_gi r)) args s 1 6 (oA O)) (F0 m 19 ls []) := by
  have hx := C.1
  have hb := C.2.1
  rw [f_X11_dull_19] at hf
  cases hf
  exact x_thr tf_0 C hR hS hst hl.1 (xs_9 C) dX11_dull_19 dX11_dull_22 dX11_dull_23 dX11_dull_25 dX11_dull_28 (Nat.le_of_ble_eq_true rfl) (by decide) (Nat.le_of_ble_eq_true rfl) (Nat.le_of_ble_eq_true rfl) (Nat.le_of_ble_eq_true rfl) (Nat.le_of_ble_eq_true rfl)
set_option maxRecDepth 20000 in
theorem B_X11_dull_39 {p : Program} {l : Launch} {e : Env} {s : State} {m : MethodId} {args : Array Value} {below : List Frame} {meth : Method} {c : Code} {O : XO} {K : XK} {r : Nat ⊕ Int32} {h' : XH}   (C : x_C p s m args meth c O cX11_dull 5 RX11 (some .int))   (hst : l.stackTraces = false) (ls : Array Slot) (H : Heap) (locs : List Loc) (h : XH) (hl : lv_has ls 5 []) (hR : x_R O K h H) (hS : va_S (oA O) s.heap H locs) (hf : f_X11_dull_39 (oX O) h = some (r, h')) : W p l e (x_rmX 6 90 1 6) s m args below meth c H locs 0 0 (vx_MQ below (x_XQ O K h' (x_rv x_gi r)) (x_XX O K h' (x_rv x_gi r)) args s 1 6 (oA O)) (F0 m 39 ls []) := by
  have hx := C.1
  have hb := C.2.1
  rw [f_X11_dull_39] at hf
  cases hf
  exact x_thr tf_1 C hR hS hst hl.1 (xs_10 C) dX11_dull_39 dX11_dull_42 dX11_dull_43 dX11_dull_45 dX11_dull_48 (Nat.le_of_ble_eq_true rfl) (by decide) (Nat.le_of_ble_eq_true rfl) (Nat.le_of_ble_eq_true rfl) (Nat.le_of_ble_eq_true rfl) (Nat.le_of_ble_eq_true rfl)
set_option maxRecDepth 20000 in
theorem S_X11_dull {l : Launch} {O : XO} {K : XK} {h : XH} {v1 : Int32} {v2 : Int32} {v3 : Int32}  {r : Nat ⊕ Int32} {h' : XH} (hst : l.stackTraces = false) (hf : f_X11_dull (oX O) h v1 v2 v3 = some (r, h')) : x_MX l O K yX11_dull cX11_dull 5 (some .int) 6 90 1 6 h [.ref (oX O), .int v1, .int v2, .int v3] (x_rv x_gi r) h' := by
  refine x_enterX (by decide) (Nat.le_of_ble_eq_true rfl) (fun p e s m args below meth c C hR ls hl => ?_)
  have hS : va_S (oA O) s.heap s.heap [] := va_S.rf
  have hx := C.1
  have hb := C.2.1
  have hl : lv_has ls 5 [(0, .ref (oX O)), (1, .int v1), (2, .int v2), (3, .int v3)] := hl
  rw [f_X11_dull] at hf
  refine lv_iload_n hx hb dX11_dull_0 rfl (lv_at hl 1 rfl) ?_
  refine lv_if_lt (tgt := 19) hx hb dX11_dull_1 rfl (fun hc => ?_) (fun hc => ?_)
  · have hf := x_ip hc hf
    exact B_X11_dull_19  C  hst  ls _ _ h  (lv_sub hl [] rfl) hR hS hf
  · have hf := x_in hc hf
    refine lv_iload_n hx hb dX11_dull_4 rfl (lv_at hl 1 rfl) ?_
    refine lv_bipush (v := 52) hx hb dX11_dull_5 rfl ?_
    refine lv_icmp_ge (tgt := 19) hx hb dX11_dull_7 rfl (fun hc => ?_) (fun hc => ?_)
    · have hf := x_ip hc hf
      exact B_X11_dull_19  C  hst  ls _ _ h  (lv_sub hl [] rfl) hR hS hf
    · have hf := x_in hc hf
      refine lv_iload_n hx hb dX11_dull_10 rfl (lv_at hl 2 rfl) ?_
      refine lv_if_lt (tgt := 19) hx hb dX11_dull_11 rfl (fun hc => ?_) (fun hc => ?_)
      · have hf := x_ip hc hf
        exact B_X11_dull_19  C  hst  ls _ _ h  (lv_sub hl [] rfl) hR hS hf
      · have hf := x_in hc hf
        refine lv_iload_n hx hb dX11_dull_14 rfl (lv_at hl 2 rfl) ?_
        refine lv_iconst (v := 3) hx hb dX11_dull_15 rfl ?_
        refine lv_icmp_lt (tgt := 29) hx hb dX11_dull_16 rfl (fun hc => ?_) (fun hc => ?_)
        · have hf := x_ip hc hf
          refine lv_iload_n hx hb dX11_dull_29 rfl (lv_at hl 3 rfl) ?_
          refine lv_if_lt (tgt := 39) hx hb dX11_dull_30 rfl (fun hc => ?_) (fun hc => ?_)
          · have hf := x_ip hc hf
            exact B_X11_dull_39  C  hst  ls _ _ h  (lv_sub hl [] rfl) hR hS hf
          · have hf := x_in hc hf
            refine lv_iload_n hx hb dX11_dull_33 rfl (lv_at hl 3 rfl) ?_
            refine lv_bipush (v := 10) hx hb dX11_dull_34 rfl ?_
            refine lv_icmp_lt (tgt := 49) hx hb dX11_dull_36 rfl (fun hc => ?_) (fun hc => ?_)
            · have hf := x_ip hc hf
              refine lv_aload_n hx hb dX11_dull_49 rfl (lv_at hl 0 rfl) ?_
              refine gf_11_1 C hR (x_k hR 0 rfl) tw_496 dX11_dull_50 ?_
              refine gf_7_0 C hR (x_k hR 9 rfl) tw_288 dX11_dull_53 ?_
              refine lv_iload_n hx hb dX11_dull_56 rfl (lv_at hl 1 rfl) ?_
              refine lv_iconst (v := 3) hx hb dX11_dull_57 rfl ?_
              refine lv_imul hx hb dX11_dull_58 ?_
              refine lv_iload_n hx hb dX11_dull_59 rfl (lv_at hl 2 rfl) ?_
              refine lv_iadd hx hb dX11_dull_60 ?_
              obtain ⟨g1, hf⟩ := x_gd hf
              refine x_iald C hR (x_k1 (x_k hR 10 rfl)) (x_k2 (x_k hR 10 rfl) g1) dX11_dull_61 ?_
              obtain ⟨t2, et2, hf⟩ := x_lt hf
              refine x_nmi et2 ?_
              refine lv_istore (lv' := [(4, _), (0, _), (1, _), (2, _), (3, _)]) hx hb dX11_dull_62 hl (Nat.le_of_ble_eq_true rfl) rfl (fun ls hl => ?_)
              refine lv_aload_n hx hb dX11_dull_64 rfl (lv_at hl 1 rfl) ?_
              refine gf_11_1 C hR (x_k hR 0 rfl) tw_496 dX11_dull_65 ?_
              refine gf_7_0 C hR (x_k hR 9 rfl) tw_288 dX11_dull_68 ?_
              refine lv_iload_n hx hb dX11_dull_71 rfl (lv_at hl 2 rfl) ?_
              refine lv_iconst (v := 3) hx hb dX11_dull_72 rfl ?_
              refine lv_imul hx hb dX11_dull_73 ?_
              refine lv_iload_n hx hb dX11_dull_74 rfl (lv_at hl 3 rfl) ?_
              refine lv_iadd hx hb dX11_dull_75 ?_
              refine lv_iload_n hx hb dX11_dull_76 rfl (lv_at hl 4 rfl) ?_
              obtain ⟨g3, hf⟩ := x_gd hf
              obtain ⟨h4, eh4, hf⟩ := x_lt hf
              refine x_iast C hR hS (x_k1 (x_k hR 10 rfl)) (x_k2 (x_k hR 10 rfl) g3) dX11_dull_77 (fun H locs hR hS => ?_)
              rw [← eh4] at hR
              refine lv_iload hx hb dX11_dull_78 (lv_at hl 0 rfl) ?_
              cases hf
              exact xx_iret C hR hS (Nat.le_of_ble_eq_true rfl) (Nat.le_of_ble_eq_true rfl) dX11_dull_80
            · have hf := x_in hc hf
              exact B_X11_dull_39  C  hst  ls _ _ h  (lv_sub hl [] rfl) hR hS hf
        · have hf := x_in hc hf
          exact B_X11_dull_19  C  hst  ls _ _ h  (lv_sub hl [] rfl) hR hS hf
def f_X11_house_11 (x : Nat) (h : XH) : Option ((Nat ⊕ Int32) × XH) := some (.inl 1, h)
def f_X11_house (x : Nat) (h : XH) (v1 : Int32) : Option ((Nat ⊕ Int32) × XH) := if v1 < 1 then f_X11_house_11 x h else if v1 ≤ 20 then if (h.1 (x + 9) 1) < 6 then Option.bind (f_X7_addHouse (x + 9) h v1) (fun q1 => some (.inr q1.1, q1.2)) else some (.inl 3, h) else f_X11_house_11 x h
set_option maxRecDepth 20000 in
theorem B_X11_house_11 {p : Program} {l : Launch} {e : Env} {s : State} {m : MethodId} {args : Array Value} {below : List Frame} {meth : Method} {c : Code} {O : XO} {K : XK} {r : Nat ⊕ Int32} {h' : XH}   (C : x_C p s m args meth c O cX11_house 2 RX11 (some .int))   (hst : l.stackTraces = false) (ls : Array Slot) (H : Heap) (locs : List Loc) (h : XH) (hl : lv_has ls 2 []) (hR : x_R O K h H) (hS : va_S (oA O) s.heap H locs) (hf : f_X11_house_11 (oX O) h = some (r, h')) : W p l e (x_rmX 6 90 1 6) s m args below meth c H locs 0 0 (vx_MQ below (x_XQ O K h' (x_rv x_gi r)) (x_XX O K h' (x_rv x_gi r)) args s 1 6 (oA O)) (F0 m 11 ls []) := by
  have hx := C.1
  have hb := C.2.1
  rw [f_X11_house_11] at hf
  cases hf
  exact x_thr tf_1 C hR hS hst hl.1 (xs_11 C) dX11_house_11 dX11_house_14 dX11_house_15 dX11_house_17 dX11_house_20 (Nat.le_of_ble_eq_true rfl) (by decide) (Nat.le_of_ble_eq_true rfl) (Nat.le_of_ble_eq_true rfl) (Nat.le_of_ble_eq_true rfl) (Nat.le_of_ble_eq_true rfl)
set_option maxRecDepth 20000 in
theorem S_X11_house {l : Launch} {O : XO} {K : XK} {h : XH} {v1 : Int32}  {r : Nat ⊕ Int32} {h' : XH} (hst : l.stackTraces = false) (hf : f_X11_house (oX O) h v1 = some (r, h')) : x_MX l O K yX11_house cX11_house 2 (some .int) 6 90 1 6 h [.ref (oX O), .int v1] (x_rv x_gi r) h' := by
  refine x_enterX (by decide) (Nat.le_of_ble_eq_true rfl) (fun p e s m args below meth c C hR ls hl => ?_)
  have hS : va_S (oA O) s.heap s.heap [] := va_S.rf
  have hx := C.1
  have hb := C.2.1
  have hl : lv_has ls 2 [(0, .ref (oX O)), (1, .int v1)] := hl
  rw [f_X11_house] at hf
  refine lv_iload_n hx hb dX11_house_0 rfl (lv_at hl 1 rfl) ?_
  refine lv_iconst (v := 1) hx hb dX11_house_1 rfl ?_
  refine lv_icmp_lt (tgt := 11) hx hb dX11_house_2 rfl (fun hc => ?_) (fun hc => ?_)
  · have hf := x_ip hc hf
    exact B_X11_house_11  C  hst  ls _ _ h  (lv_sub hl [] rfl) hR hS hf
  · have hf := x_in hc hf
    refine lv_iload_n hx hb dX11_house_5 rfl (lv_at hl 1 rfl) ?_
    refine lv_bipush (v := 20) hx hb dX11_house_6 rfl ?_
    refine lv_icmp_le (tgt := 21) hx hb dX11_house_8 rfl (fun hc => ?_) (fun hc => ?_)
    · have hf := x_ip hc hf
      refine lv_aload_n hx hb dX11_house_21 rfl (lv_at hl 0 rfl) ?_
      refine gf_11_1 C hR (x_k hR 0 rfl) tw_496 dX11_house_22 ?_
      refine gf_7_1 C hR (x_k hR 9 rfl) tw_290 dX11_house_25 ?_
      refine lv_bipush (v := 6) hx hb dX11_house_28 rfl ?_
      refine lv_icmp_lt (tgt := 43) hx hb dX11_house_30 rfl (fun hc => ?_) (fun hc => ?_)
      · have hf := x_ip hc hf
        refine lv_aload_n hx hb dX11_house_43 rfl (lv_at hl 0 rfl) ?_
        refine gf_11_1 C hR (x_k hR 0 rfl) tw_496 dX11_house_44 ?_
        refine lv_iload_n hx hb dX11_house_47 rfl (lv_at hl 1 rfl) ?_
        obtain ⟨q1, eq1, hf⟩ := x_bd hf
        refine x_cVi1 C hR hS (S_X7_addHouse (x_k hR 9 rfl) eq1) (x_k hR 9 rfl) (by decide) rfl mf_X7_addHouse tw_909 (Nat.le_of_ble_eq_true rfl) (Nat.le_of_ble_eq_true rfl) hl.1 (Nat.le_of_ble_eq_true rfl) dX11_house_48 ⟨Nat.le_of_ble_eq_true rfl, Nat.le_of_ble_eq_true rfl⟩ (fun H locs hR hS => ?_)
        cases hf
        exact xx_iret C hR hS (Nat.le_of_ble_eq_true rfl) (Nat.le_of_ble_eq_true rfl) dX11_house_51
      · have hf := x_in hc hf
        cases hf
        exact x_thr tf_3 C hR hS hst hl.1 (xs_12 C) dX11_house_33 dX11_house_36 dX11_house_37 dX11_house_39 dX11_house_42 (Nat.le_of_ble_eq_true rfl) (by decide) (Nat.le_of_ble_eq_true rfl) (Nat.le_of_ble_eq_true rfl) (Nat.le_of_ble_eq_true rfl) (Nat.le_of_ble_eq_true rfl)
    · have hf := x_in hc hf
      exact B_X11_house_11  C  hst  ls _ _ h  (lv_sub hl [] rfl) hR hS hf
def f_X11_moment_18 (x : Nat) (h : XH) : Option ((Nat ⊕ Int32) × XH) := some (.inl 1, h)
def f_X11_moment (x : Nat) (h : XH) (v1 : Int32) : Option ((Nat ⊕ Int32) × XH) := Option.bind (f_X7_lastMoment (x + 9) h) (fun v_1 => if v1 ≤ v_1 then f_X11_moment_18 x h else if v1 ≤ 99999 then if (h.1 (x + 9) 12) < 6 then if x_b (h.1 (x + 9) 12) 6 = true then x_let (x_i h (x + 16) (h.1 (x + 9) 12).toNatClampNeg v1) (fun h3 => x_let (x_i h3 (x + 9) 12 ((h3.1 (x + 9) 12) + 1)) (fun h4 => some (.inr (h4.1 (x + 9) 12), h4))) else none else some (.inl 3, h) else f_X11_moment_18 x h)
set_option maxRecDepth 20000 in
theorem B_X11_moment_18 {p : Program} {l : Launch} {e : Env} {s : State} {m : MethodId} {args : Array Value} {below : List Frame} {meth : Method} {c : Code} {O : XO} {K : XK} {r : Nat ⊕ Int32} {h' : XH}   (C : x_C p s m args meth c O cX11_moment 2 RX11 (some .int))   (hst : l.stackTraces = false) (ls : Array Slot) (H : Heap) (locs : List Loc) (h : XH) (hl : lv_has ls 2 []) (hR : x_R O K h H) (hS : va_S (oA O) s.heap H locs) (hf : f_X11_moment_18 (oX O) h = some (r, h')) : W p l e (x_rmX 6 90 1 6) s m args below meth c H locs 0 0 (vx_MQ below (x_XQ O K h' (x_rv x_gi r)) (x_XX O K h' (x_rv x_gi r)) args s 1 6 (oA O)) (F0 m 18 ls []) := by
  have hx := C.1
  have hb := C.2.1
  rw [f_X11_moment_18] at hf
  cases hf
  exact x_thrW tf_1 C hR hS hst hl.1 (xs_36 C) dX11_moment_18 dX11_moment_21 dX11_moment_22 dX11_moment_25 dX11_moment_28 (Nat.le_of_ble_eq_true rfl) (by decide) (Nat.le_of_ble_eq_true rfl) (Nat.le_of_ble_eq_true rfl) (Nat.le_of_ble_eq_true rfl) (Nat.le_of_ble_eq_true rfl)
set_option maxRecDepth 20000 in
theorem S_X11_moment {l : Launch} {O : XO} {K : XK} {h : XH} {v1 : Int32}  {r : Nat ⊕ Int32} {h' : XH} (hst : l.stackTraces = false) (hf : f_X11_moment (oX O) h v1 = some (r, h')) : x_MX l O K yX11_moment cX11_moment 2 (some .int) 6 90 1 6 h [.ref (oX O), .int v1] (x_rv x_gi r) h' := by
  refine x_enterX (by decide) (Nat.le_of_ble_eq_true rfl) (fun p e s m args below meth c C hR ls hl => ?_)
  have hS : va_S (oA O) s.heap s.heap [] := va_S.rf
  have hx := C.1
  have hb := C.2.1
  have hl : lv_has ls 2 [(0, .ref (oX O)), (1, .int v1)] := hl
  rw [f_X11_moment] at hf
  refine lv_iload_n hx hb dX11_moment_0 rfl (lv_at hl 1 rfl) ?_
  refine lv_aload_n hx hb dX11_moment_1 rfl (lv_at hl 0 rfl) ?_
  refine gf_11_1 C hR (x_k hR 0 rfl) tw_496 dX11_moment_2 ?_
  obtain ⟨v_1, ev_1, hf⟩ := x_bd hf
  refine x_cVi0 C hR hS (S_X7_lastMoment (x_k hR 9 rfl) ev_1) (x_k hR 9 rfl) (by decide) rfl mf_X7_lastMoment tw_1348 (Nat.le_of_ble_eq_true rfl) (Nat.le_of_ble_eq_true rfl) hl.1 (Nat.le_of_ble_eq_true rfl) dX11_moment_5 ⟨Nat.le_of_ble_eq_true rfl, Nat.le_of_ble_eq_true rfl⟩ (fun H locs hR hS => ?_)
  refine lv_icmp_le (tgt := 18) hx hb dX11_moment_8 rfl (fun hc => ?_) (fun hc => ?_)
  · have hf := x_ip hc hf
    exact B_X11_moment_18  C  hst  ls _ _ h  (lv_sub hl [] rfl) hR hS hf
  · have hf := x_in hc hf
    refine lv_iload_n hx hb dX11_moment_11 rfl (lv_at hl 1 rfl) ?_
    refine lv_ldcw hx hb C.2.2.2.1 (C.2.2.2.2.1 _ tw_1352) dX11_moment_12 ?_
    refine lv_icmp_le (tgt := 29) hx hb dX11_moment_15 rfl (fun hc => ?_) (fun hc => ?_)
    · have hf := x_ip hc hf
      refine lv_aload_n hx hb dX11_moment_29 rfl (lv_at hl 0 rfl) ?_
      refine gf_11_1 C hR (x_k hR 0 rfl) tw_496 dX11_moment_30 ?_
      refine gf_7_12 C hR (x_k hR 9 rfl) tw_323 dX11_moment_33 ?_
      refine lv_bipush (v := 6) hx hb dX11_moment_36 rfl ?_
      refine lv_icmp_lt (tgt := 52) hx hb dX11_moment_38 rfl (fun hc => ?_) (fun hc => ?_)
      · have hf := x_ip hc hf
        refine lv_aload_n hx hb dX11_moment_52 rfl (lv_at hl 0 rfl) ?_
        refine gf_11_1 C hR (x_k hR 0 rfl) tw_496 dX11_moment_53 ?_
        refine gf_7_13 C hR (x_k hR 9 rfl) tw_326 dX11_moment_56 ?_
        refine lv_aload_n hx hb dX11_moment_59 rfl (lv_at hl 0 rfl) ?_
        refine gf_11_1 C hR (x_k hR 0 rfl) tw_496 dX11_moment_60 ?_
        refine gf_7_12 C hR (x_k hR 9 rfl) tw_323 dX11_moment_63 ?_
        refine lv_iload_n hx hb dX11_moment_66 rfl (lv_at hl 1 rfl) ?_
        obtain ⟨g2, hf⟩ := x_gd hf
        obtain ⟨h3, eh3, hf⟩ := x_lt hf
        refine x_iast C hR hS (x_k1 (x_k hR 16 rfl)) (x_k2 (x_k hR 16 rfl) g2) dX11_moment_67 (fun H locs hR hS => ?_)
        rw [← eh3] at hR
        refine lv_aload_n hx hb dX11_moment_68 rfl (lv_at hl 0 rfl) ?_
        refine gf_11_1 C hR (x_k hR 0 rfl) tw_496 dX11_moment_69 ?_
        refine lv_dup hx hb dX11_moment_72 rfl ?_
        refine gf_7_12 C hR (x_k hR 9 rfl) tw_323 dX11_moment_73 ?_
        refine lv_iconst (v := 1) hx hb dX11_moment_76 rfl ?_
        refine lv_iadd hx hb dX11_moment_77 ?_
        obtain ⟨h4, eh4, hf⟩ := x_lt hf
        refine pf_7_12 C hR hS (x_k hR 9 rfl) tw_323 dX11_moment_78 (fun H locs hR hS => ?_)
        rw [← eh4] at hR
        refine lv_aload_n hx hb dX11_moment_81 rfl (lv_at hl 0 rfl) ?_
        refine gf_11_1 C hR (x_k hR 0 rfl) tw_496 dX11_moment_82 ?_
        refine gf_7_12 C hR (x_k hR 9 rfl) tw_323 dX11_moment_85 ?_
        cases hf
        exact xx_iret C hR hS (Nat.le_of_ble_eq_true rfl) (Nat.le_of_ble_eq_true rfl) dX11_moment_88
      · have hf := x_in hc hf
        cases hf
        exact x_thrW tf_3 C hR hS hst hl.1 (xs_37 C) dX11_moment_41 dX11_moment_44 dX11_moment_45 dX11_moment_48 dX11_moment_51 (Nat.le_of_ble_eq_true rfl) (by decide) (Nat.le_of_ble_eq_true rfl) (Nat.le_of_ble_eq_true rfl) (Nat.le_of_ble_eq_true rfl) (Nat.le_of_ble_eq_true rfl)
    · have hf := x_in hc hf
      exact B_X11_moment_18  C  hst  ls _ _ h  (lv_sub hl [] rfl) hR hS hf
def f_X11_moments (x : Nat) (h : XH) : Int32 × XH := x_let (x_i h (x + 9) 12 0) (fun h1 => ((h.1 (x + 9) 12), h1))
set_option maxRecDepth 20000 in
theorem S_X11_moments {l : Launch} {O : XO} {K : XK} {h : XH}  {r : Int32} {h' : XH}  (hf : f_X11_moments (oX O) h = (r, h')) : x_M l O K yX11_moments cX11_moments 2 (some .int) 0 0 h [.ref (oX O)] (some (.int r)) h' := by
  refine x_enter (by decide) (Nat.le_of_ble_eq_true rfl) (fun p e s m args below meth c C hR ls hl => ?_)
  have hS : va_S (oA O) s.heap s.heap [] := va_S.rf
  have hx := C.1
  have hb := C.2.1
  have hl : lv_has ls 2 [(0, .ref (oX O))] := hl
  rw [f_X11_moments] at hf
  refine lv_aload_n hx hb dX11_moments_0 rfl (lv_at hl 0 rfl) ?_
  refine gf_11_1 C hR (x_k hR 0 rfl) tw_496 dX11_moments_1 ?_
  refine gf_7_12 C hR (x_k hR 9 rfl) tw_323 dX11_moments_4 ?_
  refine lv_istore_n (lv' := [(1, _), (0, _)]) hx hb dX11_moments_7 rfl hl (Nat.le_of_ble_eq_true rfl) rfl (fun ls hl => ?_)
  refine lv_aload_n hx hb dX11_moments_8 rfl (lv_at hl 1 rfl) ?_
  refine gf_11_1 C hR (x_k hR 0 rfl) tw_496 dX11_moments_9 ?_
  refine lv_iconst (v := 0) hx hb dX11_moments_12 rfl ?_
  obtain ⟨h1, eh1, hf⟩ := x_lt hf
  refine pf_7_12 C hR hS (x_k hR 9 rfl) tw_323 dX11_moments_13 (fun H locs hR hS => ?_)
  rw [← eh1] at hR
  refine lv_iload_n hx hb dX11_moments_16 rfl (lv_at hl 0 rfl) ?_
  cases hf
  exact x_iret C hR hS dX11_moments_17
def f_X11_unlike_8 (x : Nat) (h : XH) : Nat → Int32 → Int32 → Int32 → Int32 → Int32 → Option Int32
  | 0, _, _, _, _, _ => none
  | n + 1, v1, v2, v3, v4, v5 => if 10 ≤ v5 then some (if v2 = 0 then v3 else v4) else Option.bind (f_X7_doorsThatLook (x + 9) h v5 v1) (fun v_2 => x_let ((v3 + (if v_2 ≤ 0 then 0 else 1)) : Int32) (fun t4 => x_let ((v4 + ((v_2 * (v_2 - 1)) / 2)) : Int32) (fun t5 => f_X11_unlike_8 x h n v1 v2 t4 t5 (v5 + 1))))
def f_X11_unlike (x : Nat) (h : XH) (v1 : Int32) (v2 : Int32) : Option Int32 := f_X11_unlike_8 x h x_FU v1 v2 0 0 0
set_option maxRecDepth 20000 in
theorem B_X11_unlike_8 {p : Program} {l : Launch} {e : Env} {s : State} {m : MethodId} {args : Array Value} {below : List Frame} {meth : Method} {c : Code} {O : XO} {K : XK} {h : XH} {r : Int32}   (C : x_C p s m args meth c O cX11_unlike 7 RX11 (some .int))   : ∀ (n : Nat) (ls : Array Slot) (H : Heap) (locs : List Loc) (v1 : Int32) (v2 : Int32) (v3 : Int32) (v4 : Int32) (v5 : Int32) (hl : lv_has ls 7 [(0, .ref (oX O)), (1, .int v1), (2, .int v2), (3, .int v3), (4, .int v4), (5, .int v5)]) (hR : x_R O K h H) (hS : va_S (oA O) s.heap H locs) (hf : f_X11_unlike_8 (oX O) h n v1 v2 v3 v4 v5 = some r), W p l e (x_rm 2 47) s m args below meth c H locs 0 0 (MQ below (x_Qc O K h (some (.int r))) args s 0 0 (oA O)) (F0 m 8 ls []) := by
  have hx := C.1
  have hb := C.2.1
  intro n
  induction n with
  | zero =>
    intro ls H locs v1 v2 v3 v4 v5 hl hR hS hf
    rw [f_X11_unlike_8] at hf
    cases hf
  | succ n ih =>
    intro ls H locs v1 v2 v3 v4 v5 hl hR hS hf
    rw [f_X11_unlike_8] at hf
    refine lv_iload hx hb dX11_unlike_8 (lv_at hl 5 rfl) ?_
    refine lv_bipush (v := 10) hx hb dX11_unlike_10 rfl ?_
    refine lv_icmp_ge (tgt := 60) hx hb dX11_unlike_12 rfl (fun hc => ?_) (fun hc => ?_)
    · have hf := x_ip hc hf
      refine lv_iload_n hx hb dX11_unlike_60 rfl (lv_at hl 2 rfl) ?_
      have kM1 : ∀ (ls : Array Slot) (H : Heap) (locs : List Loc), lv_has ls 7 [] → x_R O K h H → va_S (oA O) s.heap H locs → W p l e (x_rm 2 47) s m args below meth c H locs 0 0 (MQ below (x_Qc O K h (some (.int r))) args s 0 0 (oA O)) (F0 m 70 ls [.int (if v2 = 0 then v3 else v4)]) := by
        intro ls H locs hl hR hS
        cases hf
        exact x_iret C hR hS dX11_unlike_70
      refine lv_if_eq (tgt := 69) hx hb dX11_unlike_61 rfl (fun hc => ?_) (fun hc => ?_)
      · try simp only [if_pos hc] at kM1
        refine lv_iload_n hx hb dX11_unlike_69 rfl (lv_at hl 3 rfl) ?_
        exact kM1 ls _ _ (lv_sub hl [] rfl) hR hS
      · try simp only [if_neg hc] at kM1
        refine lv_iload hx hb dX11_unlike_64 (lv_at hl 4 rfl) ?_
        refine lv_goto (tgt := 70) hx hb dX11_unlike_66 rfl ?_
        exact kM1 ls _ _ (lv_sub hl [] rfl) hR hS
    · have hf := x_in hc hf
      refine lv_aload_n hx hb dX11_unlike_15 rfl (lv_at hl 0 rfl) ?_
      refine gf_11_1 C hR (x_k hR 0 rfl) tw_496 dX11_unlike_16 ?_
      refine lv_iload hx hb dX11_unlike_19 (lv_at hl 5 rfl) ?_
      refine lv_iload_n hx hb dX11_unlike_21 rfl (lv_at hl 1 rfl) ?_
      obtain ⟨v_2, ev_2, hf⟩ := x_bd hf
      refine x_cVi2 C hR hS (S_X7_doorsThatLook (x_k hR 9 rfl) ev_2) (x_k hR 9 rfl) (by decide) rfl mf_X7_doorsThatLook tw_551 (Nat.le_of_ble_eq_true rfl) (Nat.le_of_ble_eq_true rfl) hl.1 (Nat.le_of_ble_eq_true rfl) dX11_unlike_22 ⟨Nat.le_refl _, Nat.le_refl _⟩ (fun H locs hR hS => ?_)
      refine lv_istore (lv' := [(6, _), (0, _), (1, _), (2, _), (3, _), (4, _), (5, _)]) hx hb dX11_unlike_25 hl (Nat.le_of_ble_eq_true rfl) rfl (fun ls hl => ?_)
      refine lv_iload_n hx hb dX11_unlike_27 rfl (lv_at hl 4 rfl) ?_
      refine lv_iload hx hb dX11_unlike_28 (lv_at hl 0 rfl) ?_
      have kM3 : ∀ (ls : Array Slot) (H : Heap) (locs : List Loc), lv_has ls 7 [(0, .ref (oX O)), (1, .int v1), (2, .int v2), (4, .int v4), (5, .int v5), (6, .int v_2)] → x_R O K h H → va_S (oA O) s.heap H locs → W p l e (x_rm 2 47) s m args below meth c H locs 0 0 (MQ below (x_Qc O K h (some (.int r))) args s 0 0 (oA O)) (F0 m 38 ls [.int (if v_2 ≤ 0 then 0 else 1), .int v3]) := by
        intro ls H locs hl hR hS
        refine lv_iadd hx hb dX11_unlike_38 ?_
        obtain ⟨t4, et4, hf⟩ := x_lt hf
        refine x_nmi et4 ?_
        refine lv_istore_n (lv' := [(3, _), (0, _), (1, _), (2, _), (4, _), (5, _), (6, _)]) hx hb dX11_unlike_39 rfl hl (Nat.le_of_ble_eq_true rfl) rfl (fun ls hl => ?_)
        refine lv_iload hx hb dX11_unlike_40 (lv_at hl 4 rfl) ?_
        refine lv_iload hx hb dX11_unlike_42 (lv_at hl 6 rfl) ?_
        refine lv_iload hx hb dX11_unlike_44 (lv_at hl 6 rfl) ?_
        refine lv_iconst (v := 1) hx hb dX11_unlike_46 rfl ?_
        refine lv_isub hx hb dX11_unlike_47 ?_
        refine lv_imul hx hb dX11_unlike_48 ?_
        refine lv_iconst (v := 2) hx hb dX11_unlike_49 rfl ?_
        refine lv_idiv hx hb dX11_unlike_50 (by decide) ?_
        refine lv_iadd hx hb dX11_unlike_51 ?_
        obtain ⟨t5, et5, hf⟩ := x_lt hf
        refine x_nmi et5 ?_
        refine lv_istore (lv' := [(4, _), (3, _), (0, _), (1, _), (2, _), (5, _), (6, _)]) hx hb dX11_unlike_52 hl (Nat.le_of_ble_eq_true rfl) rfl (fun ls hl => ?_)
        refine lv_iinc (k := 5) (v := _ + 1) (lv' := [(5, _), (4, _), (3, _), (0, _), (1, _), (2, _), (6, _)]) hx hb dX11_unlike_54 hl rfl (x_inc 1 1 rfl _) (Nat.le_of_ble_eq_true rfl) rfl (fun ls hl => ?_)
        refine lv_goto (tgt := 8) hx hb dX11_unlike_57 rfl ?_
        exact ih ls _ _ _ _ _ _ _  (lv_sub hl [3, 4, 5, 2, 1, 0] rfl) hR hS hf
      refine lv_if_le (tgt := 37) hx hb dX11_unlike_30 rfl (fun hc => ?_) (fun hc => ?_)
      · try simp only [if_pos hc] at kM3
        refine lv_iconst (v := 0) hx hb dX11_unlike_37 rfl ?_
        exact kM3 ls _ _ (lv_sub hl [1, 2, 3, 5, 6, 0] rfl) hR hS
      · try simp only [if_neg hc] at kM3
        refine lv_iconst (v := 1) hx hb dX11_unlike_33 rfl ?_
        refine lv_goto (tgt := 38) hx hb dX11_unlike_34 rfl ?_
        exact kM3 ls _ _ (lv_sub hl [1, 2, 3, 5, 6, 0] rfl) hR hS
set_option maxRecDepth 20000 in
theorem S_X11_unlike {l : Launch} {O : XO} {K : XK} {h : XH} {v1 : Int32} {v2 : Int32}  {r : Int32}  (hf : f_X11_unlike (oX O) h v1 v2 = some r) : x_M l O K yX11_unlike cX11_unlike 7 (some .int) 2 47 h [.ref (oX O), .int v1, .int v2] (some (.int r)) h := by
  refine x_enter (by decide) (Nat.le_of_ble_eq_true rfl) (fun p e s m args below meth c C hR ls hl => ?_)
  have hS : va_S (oA O) s.heap s.heap [] := va_S.rf
  have hx := C.1
  have hb := C.2.1
  have hl : lv_has ls 7 [(0, .ref (oX O)), (1, .int v1), (2, .int v2)] := hl
  rw [f_X11_unlike] at hf
  refine lv_iconst (v := 0) hx hb dX11_unlike_0 rfl ?_
  refine lv_istore_n (lv' := [(3, _), (0, _), (1, _), (2, _)]) hx hb dX11_unlike_1 rfl hl (Nat.le_of_ble_eq_true rfl) rfl (fun ls hl => ?_)
  refine lv_iconst (v := 0) hx hb dX11_unlike_2 rfl ?_
  refine lv_istore (lv' := [(4, _), (3, _), (0, _), (1, _), (2, _)]) hx hb dX11_unlike_3 hl (Nat.le_of_ble_eq_true rfl) rfl (fun ls hl => ?_)
  refine lv_iconst (v := 0) hx hb dX11_unlike_5 rfl ?_
  refine lv_istore (lv' := [(5, _), (4, _), (3, _), (0, _), (1, _), (2, _)]) hx hb dX11_unlike_6 hl (Nat.le_of_ble_eq_true rfl) rfl (fun ls hl => ?_)
  exact B_X11_unlike_8  C  x_FU ls _ _ _ _ _ _ _  (lv_sub hl [3, 4, 5, 2, 1, 0] rfl) hR hS hf
def f_X11_chance_21 (x : Nat) (h : XH) : Option ((Nat ⊕ Unit) × XH) := some (.inl 1, h)
def f_X11_chance (x : Nat) (h : XH) (v1 : Int32) (v2 : Int32) : Option ((Nat ⊕ Unit) × XH) := if v1 < 1 then f_X11_chance_21 x h else if 6 < v1 then f_X11_chance_21 x h else if v2 < 0 then f_X11_chance_21 x h else if v2 ≤ 100 then if x_b (v1 - 1) 6 = true then x_let (x_i h (x + 17) (v1 - 1).toNatClampNeg v2) (fun h2 => some (.inr (), h2)) else none else f_X11_chance_21 x h
set_option maxRecDepth 20000 in
theorem B_X11_chance_21 {p : Program} {l : Launch} {e : Env} {s : State} {m : MethodId} {args : Array Value} {below : List Frame} {meth : Method} {c : Code} {O : XO} {K : XK} {r : Nat ⊕ Unit} {h' : XH}   (C : x_C p s m args meth c O cX11_chance 3 RX11 none)   (hst : l.stackTraces = false) (ls : Array Slot) (H : Heap) (locs : List Loc) (h : XH) (hl : lv_has ls 3 []) (hR : x_R O K h H) (hS : va_S (oA O) s.heap H locs) (hf : f_X11_chance_21 (oX O) h = some (r, h')) : W p l e (x_rmX 6 90 1 6) s m args below meth c H locs 0 0 (vx_MQ below (x_XQ O K h' (x_rv x_gv r)) (x_XX O K h' (x_rv x_gv r)) args s 1 6 (oA O)) (F0 m 21 ls []) := by
  have hx := C.1
  have hb := C.2.1
  rw [f_X11_chance_21] at hf
  cases hf
  exact x_thrW tf_1 C hR hS hst hl.1 (xs_44 C) dX11_chance_21 dX11_chance_24 dX11_chance_25 dX11_chance_28 dX11_chance_31 (Nat.le_of_ble_eq_true rfl) (by decide) (Nat.le_of_ble_eq_true rfl) (Nat.le_of_ble_eq_true rfl) (Nat.le_of_ble_eq_true rfl) (Nat.le_of_ble_eq_true rfl)
set_option maxRecDepth 20000 in
theorem S_X11_chance {l : Launch} {O : XO} {K : XK} {h : XH} {v1 : Int32} {v2 : Int32}  {r : Nat ⊕ Unit} {h' : XH} (hst : l.stackTraces = false) (hf : f_X11_chance (oX O) h v1 v2 = some (r, h')) : x_MX l O K yX11_chance cX11_chance 3 none 6 90 1 6 h [.ref (oX O), .int v1, .int v2] (x_rv x_gv r) h' := by
  refine x_enterX (by decide) (Nat.le_of_ble_eq_true rfl) (fun p e s m args below meth c C hR ls hl => ?_)
  have hS : va_S (oA O) s.heap s.heap [] := va_S.rf
  have hx := C.1
  have hb := C.2.1
  have hl : lv_has ls 3 [(0, .ref (oX O)), (1, .int v1), (2, .int v2)] := hl
  rw [f_X11_chance] at hf
  refine lv_iload_n hx hb dX11_chance_0 rfl (lv_at hl 1 rfl) ?_
  refine lv_iconst (v := 1) hx hb dX11_chance_1 rfl ?_
  refine lv_icmp_lt (tgt := 21) hx hb dX11_chance_2 rfl (fun hc => ?_) (fun hc => ?_)
  · have hf := x_ip hc hf
    exact B_X11_chance_21  C  hst  ls _ _ h  (lv_sub hl [] rfl) hR hS hf
  · have hf := x_in hc hf
    refine lv_iload_n hx hb dX11_chance_5 rfl (lv_at hl 1 rfl) ?_
    refine lv_bipush (v := 6) hx hb dX11_chance_6 rfl ?_
    refine lv_icmp_gt (tgt := 21) hx hb dX11_chance_8 rfl (fun hc => ?_) (fun hc => ?_)
    · have hf := x_ip hc hf
      exact B_X11_chance_21  C  hst  ls _ _ h  (lv_sub hl [] rfl) hR hS hf
    · have hf := x_in hc hf
      refine lv_iload_n hx hb dX11_chance_11 rfl (lv_at hl 2 rfl) ?_
      refine lv_if_lt (tgt := 21) hx hb dX11_chance_12 rfl (fun hc => ?_) (fun hc => ?_)
      · have hf := x_ip hc hf
        exact B_X11_chance_21  C  hst  ls _ _ h  (lv_sub hl [] rfl) hR hS hf
      · have hf := x_in hc hf
        refine lv_iload_n hx hb dX11_chance_15 rfl (lv_at hl 2 rfl) ?_
        refine lv_bipush (v := 100) hx hb dX11_chance_16 rfl ?_
        refine lv_icmp_le (tgt := 32) hx hb dX11_chance_18 rfl (fun hc => ?_) (fun hc => ?_)
        · have hf := x_ip hc hf
          refine lv_aload_n hx hb dX11_chance_32 rfl (lv_at hl 0 rfl) ?_
          refine gf_11_1 C hR (x_k hR 0 rfl) tw_496 dX11_chance_33 ?_
          refine gf_7_14 C hR (x_k hR 9 rfl) tw_328 dX11_chance_36 ?_
          refine lv_iload_n hx hb dX11_chance_39 rfl (lv_at hl 1 rfl) ?_
          refine lv_iconst (v := 1) hx hb dX11_chance_40 rfl ?_
          refine lv_isub hx hb dX11_chance_41 ?_
          refine lv_iload_n hx hb dX11_chance_42 rfl (lv_at hl 2 rfl) ?_
          obtain ⟨g1, hf⟩ := x_gd hf
          obtain ⟨h2, eh2, hf⟩ := x_lt hf
          refine x_iast C hR hS (x_k1 (x_k hR 17 rfl)) (x_k2 (x_k hR 17 rfl) g1) dX11_chance_43 (fun H locs hR hS => ?_)
          rw [← eh2] at hR
          cases hf
          exact xx_vret C hR hS (Nat.le_of_ble_eq_true rfl) (Nat.le_of_ble_eq_true rfl) dX11_chance_44
        · have hf := x_in hc hf
          exact B_X11_chance_21  C  hst  ls _ _ h  (lv_sub hl [] rfl) hR hS hf
def f_X11_week_11 (x : Nat) (h : XH) : Option ((Nat ⊕ Int32) × XH) := some (.inl 1, h)
def f_X11_week (x : Nat) (h : XH) (v1 : Int32) : Option ((Nat ⊕ Int32) × XH) := if v1 < 0 then f_X11_week_11 x h else if v1 ≤ 9999 then if (h.1 (x + 9) 15) < 20 then if x_b (h.1 (x + 9) 15) 20 = true then x_let (x_i h (x + 18) (h.1 (x + 9) 15).toNatClampNeg v1) (fun h2 => x_let (x_i h2 (x + 9) 15 ((h2.1 (x + 9) 15) + 1)) (fun h3 => some (.inr (h3.1 (x + 9) 15), h3))) else none else some (.inl 3, h) else f_X11_week_11 x h
set_option maxRecDepth 20000 in
theorem B_X11_week_11 {p : Program} {l : Launch} {e : Env} {s : State} {m : MethodId} {args : Array Value} {below : List Frame} {meth : Method} {c : Code} {O : XO} {K : XK} {r : Nat ⊕ Int32} {h' : XH}   (C : x_C p s m args meth c O cX11_week 2 RX11 (some .int))   (hst : l.stackTraces = false) (ls : Array Slot) (H : Heap) (locs : List Loc) (h : XH) (hl : lv_has ls 2 []) (hR : x_R O K h H) (hS : va_S (oA O) s.heap H locs) (hf : f_X11_week_11 (oX O) h = some (r, h')) : W p l e (x_rmX 6 90 1 6) s m args below meth c H locs 0 0 (vx_MQ below (x_XQ O K h' (x_rv x_gi r)) (x_XX O K h' (x_rv x_gi r)) args s 1 6 (oA O)) (F0 m 11 ls []) := by
  have hx := C.1
  have hb := C.2.1
  rw [f_X11_week_11] at hf
  cases hf
  exact x_thrW tf_1 C hR hS hst hl.1 (xs_46 C) dX11_week_11 dX11_week_14 dX11_week_15 dX11_week_18 dX11_week_21 (Nat.le_of_ble_eq_true rfl) (by decide) (Nat.le_of_ble_eq_true rfl) (Nat.le_of_ble_eq_true rfl) (Nat.le_of_ble_eq_true rfl) (Nat.le_of_ble_eq_true rfl)
set_option maxRecDepth 20000 in
theorem S_X11_week {l : Launch} {O : XO} {K : XK} {h : XH} {v1 : Int32}  {r : Nat ⊕ Int32} {h' : XH} (hst : l.stackTraces = false) (hf : f_X11_week (oX O) h v1 = some (r, h')) : x_MX l O K yX11_week cX11_week 2 (some .int) 6 90 1 6 h [.ref (oX O), .int v1] (x_rv x_gi r) h' := by
  refine x_enterX (by decide) (Nat.le_of_ble_eq_true rfl) (fun p e s m args below meth c C hR ls hl => ?_)
  have hS : va_S (oA O) s.heap s.heap [] := va_S.rf
  have hx := C.1
  have hb := C.2.1
  have hl : lv_has ls 2 [(0, .ref (oX O)), (1, .int v1)] := hl
  rw [f_X11_week] at hf
  refine lv_iload_n hx hb dX11_week_0 rfl (lv_at hl 1 rfl) ?_
  refine lv_if_lt (tgt := 11) hx hb dX11_week_1 rfl (fun hc => ?_) (fun hc => ?_)
  · have hf := x_ip hc hf
    exact B_X11_week_11  C  hst  ls _ _ h  (lv_sub hl [] rfl) hR hS hf
  · have hf := x_in hc hf
    refine lv_iload_n hx hb dX11_week_4 rfl (lv_at hl 1 rfl) ?_
    refine lv_sipush (v := 9999) hx hb dX11_week_5 rfl ?_
    refine lv_icmp_le (tgt := 22) hx hb dX11_week_8 rfl (fun hc => ?_) (fun hc => ?_)
    · have hf := x_ip hc hf
      refine lv_aload_n hx hb dX11_week_22 rfl (lv_at hl 0 rfl) ?_
      refine gf_11_1 C hR (x_k hR 0 rfl) tw_496 dX11_week_23 ?_
      refine gf_7_15 C hR (x_k hR 9 rfl) tw_330 dX11_week_26 ?_
      refine lv_bipush (v := 20) hx hb dX11_week_29 rfl ?_
      refine lv_icmp_lt (tgt := 45) hx hb dX11_week_31 rfl (fun hc => ?_) (fun hc => ?_)
      · have hf := x_ip hc hf
        refine lv_aload_n hx hb dX11_week_45 rfl (lv_at hl 0 rfl) ?_
        refine gf_11_1 C hR (x_k hR 0 rfl) tw_496 dX11_week_46 ?_
        refine gf_7_16 C hR (x_k hR 9 rfl) tw_332 dX11_week_49 ?_
        refine lv_aload_n hx hb dX11_week_52 rfl (lv_at hl 0 rfl) ?_
        refine gf_11_1 C hR (x_k hR 0 rfl) tw_496 dX11_week_53 ?_
        refine gf_7_15 C hR (x_k hR 9 rfl) tw_330 dX11_week_56 ?_
        refine lv_iload_n hx hb dX11_week_59 rfl (lv_at hl 1 rfl) ?_
        obtain ⟨g1, hf⟩ := x_gd hf
        obtain ⟨h2, eh2, hf⟩ := x_lt hf
        refine x_iast C hR hS (x_k1 (x_k hR 18 rfl)) (x_k2 (x_k hR 18 rfl) g1) dX11_week_60 (fun H locs hR hS => ?_)
        rw [← eh2] at hR
        refine lv_aload_n hx hb dX11_week_61 rfl (lv_at hl 0 rfl) ?_
        refine gf_11_1 C hR (x_k hR 0 rfl) tw_496 dX11_week_62 ?_
        refine lv_dup hx hb dX11_week_65 rfl ?_
        refine gf_7_15 C hR (x_k hR 9 rfl) tw_330 dX11_week_66 ?_
        refine lv_iconst (v := 1) hx hb dX11_week_69 rfl ?_
        refine lv_iadd hx hb dX11_week_70 ?_
        obtain ⟨h3, eh3, hf⟩ := x_lt hf
        refine pf_7_15 C hR hS (x_k hR 9 rfl) tw_330 dX11_week_71 (fun H locs hR hS => ?_)
        rw [← eh3] at hR
        refine lv_aload_n hx hb dX11_week_74 rfl (lv_at hl 0 rfl) ?_
        refine gf_11_1 C hR (x_k hR 0 rfl) tw_496 dX11_week_75 ?_
        refine gf_7_15 C hR (x_k hR 9 rfl) tw_330 dX11_week_78 ?_
        cases hf
        exact xx_iret C hR hS (Nat.le_of_ble_eq_true rfl) (Nat.le_of_ble_eq_true rfl) dX11_week_81
      · have hf := x_in hc hf
        cases hf
        exact x_thrW tf_3 C hR hS hst hl.1 (xs_47 C) dX11_week_34 dX11_week_37 dX11_week_38 dX11_week_41 dX11_week_44 (Nat.le_of_ble_eq_true rfl) (by decide) (Nat.le_of_ble_eq_true rfl) (Nat.le_of_ble_eq_true rfl) (Nat.le_of_ble_eq_true rfl) (Nat.le_of_ble_eq_true rfl)
    · have hf := x_in hc hf
      exact B_X11_week_11  C  hst  ls _ _ h  (lv_sub hl [] rfl) hR hS hf
def f_X11_dullest (K : XK) (x : Nat) (h : XH) : Option (Int32 × XH) := Option.bind (f_X0_mostMissed K x h) (fun q1 => some (q1.1, q1.2))
set_option maxRecDepth 20000 in
theorem S_X11_dullest {l : Launch} {O : XO} {K : XK} {h : XH}  {r : Int32} {h' : XH}  (hf : f_X11_dullest K (oX O) h = some (r, h')) : x_M l O K yX11_dullest cX11_dullest 1 (some .int) 3 69 h [.ref (oX O)] (some (.int r)) h' := by
  refine x_enter (by decide) (Nat.le_of_ble_eq_true rfl) (fun p e s m args below meth c C hR ls hl => ?_)
  have hS : va_S (oA O) s.heap s.heap [] := va_S.rf
  have hx := C.1
  have hb := C.2.1
  have hl : lv_has ls 1 [(0, .ref (oX O))] := hl
  rw [f_X11_dullest] at hf
  refine lv_aload_n hx hb dX11_dullest_0 rfl (lv_at hl 0 rfl) ?_
  refine gf_11_7 C hR (x_k hR 0 rfl) tw_502 dX11_dullest_1 ?_
  obtain ⟨q1, eq1, hf⟩ := x_bd hf
  refine x_cVi0 C hR hS (S_X0_mostMissed  eq1) (x_k hR 59 rfl) (by decide) rfl mf_X0_mostMissed tw_563 (Nat.le_of_ble_eq_true rfl) (Nat.le_of_ble_eq_true rfl) hl.1 (Nat.le_of_ble_eq_true rfl) dX11_dullest_4 ⟨Nat.le_refl _, Nat.le_refl _⟩ (fun H locs hR hS => ?_)
  cases hf
  exact x_iret C hR hS dX11_dullest_7
def f_X11_back (x : Nat) (h : XH) : Option (Int32 × XH) := x_opt (h.2.2 x 8) (some (0, h)) (fun r1 => Option.bind (h.2.2 x 8) (fun r3 => Option.bind (f_X7_copyFrom (x + 9) h r3) (fun h4 => some (1, h4))))
set_option maxRecDepth 20000 in
theorem S_X11_back {l : Launch} {O : XO} {K : XK} {h : XH}  {r : Int32} {h' : XH}  (hf : f_X11_back (oX O) h = some (r, h')) : x_M l O K yX11_back cX11_back 1 (some .boolean) 3 143 h [.ref (oX O)] (some (.int r)) h' := by
  refine x_enter (by decide) (Nat.le_of_ble_eq_true rfl) (fun p e s m args below meth c C hR ls hl => ?_)
  have hS : va_S (oA O) s.heap s.heap [] := va_S.rf
  have hx := C.1
  have hb := C.2.1
  have hl : lv_has ls 1 [(0, .ref (oX O))] := hl
  rw [f_X11_back] at hf
  refine lv_aload_n hx hb dX11_back_0 rfl (lv_at hl 0 rfl) ?_
  refine gf_11_8 C hR (x_k hR 0 rfl) tw_503 dX11_back_1 ?_
  generalize hqo2 : (h.2.2 (oX O) 8) = o2 at hf ⊢
  cases o2 with
  | none =>
    have hf := x_on hf
    refine lv_ifnonnullN hx hb dX11_back_4 ?_
    refine lv_iconst (v := 0) hx hb dX11_back_7 rfl ?_
    cases hf
    exact x_zret C hR hS (Or.inl rfl) dX11_back_8
  | some r1 =>
    have hf := x_os hf
    refine lv_ifnonnull (tgt := 9) hx hb dX11_back_4 rfl ?_
    refine lv_aload_n hx hb dX11_back_9 rfl (lv_at hl 0 rfl) ?_
    refine gf_11_1 C hR (x_k hR 0 rfl) tw_496 dX11_back_10 ?_
    refine lv_aload_n hx hb dX11_back_13 rfl (lv_at hl 0 rfl) ?_
    refine gf_11_8 C hR (x_k hR 0 rfl) tw_503 dX11_back_14 ?_
    obtain ⟨r3, er3, hf⟩ := x_bd hf
    have er3 := hqo2.trans er3
    rw [er3]
    obtain ⟨h4, eh4, hf⟩ := x_bd hf
    refine x_cVv1 C hR hS (S_X7_copyFrom (x_k hR 9 rfl) ((x_kS hR) r3 er3) eh4) (x_k hR 9 rfl) (by decide) rfl mf_X7_copyFrom tw_582 (Nat.le_of_ble_eq_true rfl) (Nat.le_of_ble_eq_true rfl) hl.1 (Nat.le_of_ble_eq_true rfl) dX11_back_17 ⟨Nat.le_refl _, Nat.le_refl _⟩ (fun H locs hR hS => ?_)
    refine lv_iconst (v := 1) hx hb dX11_back_20 rfl ?_
    cases hf
    exact x_zret C hR hS (Or.inr rfl) dX11_back_21
def f_X11_count (x : Nat) (h : XH) (v1 : Int32) : Option Int32 := if v1 = 0 then some (h.1 (x + 9) 1) else if v1 = 1 then Option.bind (f_X7_doorsInAll (x + 9) h) (fun v_1 => some v_1) else if v1 = 2 then some (h.1 (x + 9) 4) else if v1 = 3 then some (h.1 (x + 9) 6) else if v1 = 4 then some (h.1 (x + 9) 7) else if v1 = 5 then some (h.1 (x + 9) 8) else if v1 = 6 then some (h.1 (x + 9) 10) else if v1 = 7 then some (h.1 (x + 9) 15) else if v1 = 8 then some (h.1 (x + 9) 12) else if v1 = 9 then Option.bind (f_X7_rightInAll (x + 9) h) (fun v_2 => some v_2) else some (-1)
set_option maxRecDepth 20000 in
theorem S_X11_count {l : Launch} {O : XO} {K : XK} {h : XH} {v1 : Int32}  {r : Int32}  (hf : f_X11_count (oX O) h v1 = some r) : x_M l O K yX11_count cX11_count 2 (some .int) 3 65 h [.ref (oX O), .int v1] (some (.int r)) h := by
  refine x_enter (by decide) (Nat.le_of_ble_eq_true rfl) (fun p e s m args below meth c C hR ls hl => ?_)
  have hS : va_S (oA O) s.heap s.heap [] := va_S.rf
  have hx := C.1
  have hb := C.2.1
  have hl : lv_has ls 2 [(0, .ref (oX O)), (1, .int v1)] := hl
  rw [f_X11_count] at hf
  refine lv_iload_n hx hb dX11_count_0 rfl (lv_at hl 1 rfl) ?_
  by_cases hc0 : v1 = 0
  · have hf := x_ip hc0 hf
    refine lv_tableIn (tgt := 56) hx hb dX11_count_1 (by rw [hc0]; decide) (by rw [hc0]; decide) (by rw [hc0] <;> rfl) rfl ?_
    refine lv_aload_n hx hb dX11_count_56 rfl (lv_at hl 0 rfl) ?_
    refine gf_11_1 C hR (x_k hR 0 rfl) tw_496 dX11_count_57 ?_
    refine gf_7_1 C hR (x_k hR 9 rfl) tw_290 dX11_count_60 ?_
    cases hf
    exact x_iret C hR hS dX11_count_63
  · have hf := x_in hc0 hf
    by_cases hc1 : v1 = 1
    · have hf := x_ip hc1 hf
      refine lv_tableIn (tgt := 64) hx hb dX11_count_1 (by rw [hc1]; decide) (by rw [hc1]; decide) (by rw [hc1] <;> rfl) rfl ?_
      refine lv_aload_n hx hb dX11_count_64 rfl (lv_at hl 0 rfl) ?_
      refine gf_11_1 C hR (x_k hR 0 rfl) tw_496 dX11_count_65 ?_
      obtain ⟨v_1, ev_1, hf⟩ := x_bd hf
      refine x_cVi0 C hR hS (S_X7_doorsInAll (x_k hR 9 rfl) ev_1) (x_k hR 9 rfl) (by decide) rfl mf_X7_doorsInAll tw_606 (Nat.le_of_ble_eq_true rfl) (Nat.le_of_ble_eq_true rfl) hl.1 (Nat.le_of_ble_eq_true rfl) dX11_count_68 ⟨Nat.le_refl _, Nat.le_refl _⟩ (fun H locs hR hS => ?_)
      cases hf
      exact x_iret C hR hS dX11_count_71
    · have hf := x_in hc1 hf
      by_cases hc2 : v1 = 2
      · have hf := x_ip hc2 hf
        refine lv_tableIn (tgt := 72) hx hb dX11_count_1 (by rw [hc2]; decide) (by rw [hc2]; decide) (by rw [hc2] <;> rfl) rfl ?_
        refine lv_aload_n hx hb dX11_count_72 rfl (lv_at hl 0 rfl) ?_
        refine gf_11_1 C hR (x_k hR 0 rfl) tw_496 dX11_count_73 ?_
        refine gf_7_4 C hR (x_k hR 9 rfl) tw_299 dX11_count_76 ?_
        cases hf
        exact x_iret C hR hS dX11_count_79
      · have hf := x_in hc2 hf
        by_cases hc3 : v1 = 3
        · have hf := x_ip hc3 hf
          refine lv_tableIn (tgt := 80) hx hb dX11_count_1 (by rw [hc3]; decide) (by rw [hc3]; decide) (by rw [hc3] <;> rfl) rfl ?_
          refine lv_aload_n hx hb dX11_count_80 rfl (lv_at hl 0 rfl) ?_
          refine gf_11_1 C hR (x_k hR 0 rfl) tw_496 dX11_count_81 ?_
          refine gf_7_6 C hR (x_k hR 9 rfl) tw_308 dX11_count_84 ?_
          cases hf
          exact x_iret C hR hS dX11_count_87
        · have hf := x_in hc3 hf
          by_cases hc4 : v1 = 4
          · have hf := x_ip hc4 hf
            refine lv_tableIn (tgt := 88) hx hb dX11_count_1 (by rw [hc4]; decide) (by rw [hc4]; decide) (by rw [hc4] <;> rfl) rfl ?_
            refine lv_aload_n hx hb dX11_count_88 rfl (lv_at hl 0 rfl) ?_
            refine gf_11_1 C hR (x_k hR 0 rfl) tw_496 dX11_count_89 ?_
            refine gf_7_7 C hR (x_k hR 9 rfl) tw_312 dX11_count_92 ?_
            cases hf
            exact x_iret C hR hS dX11_count_95
          · have hf := x_in hc4 hf
            by_cases hc5 : v1 = 5
            · have hf := x_ip hc5 hf
              refine lv_tableIn (tgt := 96) hx hb dX11_count_1 (by rw [hc5]; decide) (by rw [hc5]; decide) (by rw [hc5] <;> rfl) rfl ?_
              refine lv_aload_n hx hb dX11_count_96 rfl (lv_at hl 0 rfl) ?_
              refine gf_11_1 C hR (x_k hR 0 rfl) tw_496 dX11_count_97 ?_
              refine gf_7_8 C hR (x_k hR 9 rfl) tw_314 dX11_count_100 ?_
              cases hf
              exact x_iret C hR hS dX11_count_103
            · have hf := x_in hc5 hf
              by_cases hc6 : v1 = 6
              · have hf := x_ip hc6 hf
                refine lv_tableIn (tgt := 104) hx hb dX11_count_1 (by rw [hc6]; decide) (by rw [hc6]; decide) (by rw [hc6] <;> rfl) rfl ?_
                refine lv_aload_n hx hb dX11_count_104 rfl (lv_at hl 0 rfl) ?_
                refine gf_11_1 C hR (x_k hR 0 rfl) tw_496 dX11_count_105 ?_
                refine gf_7_10 C hR (x_k hR 9 rfl) tw_318 dX11_count_108 ?_
                cases hf
                exact x_iret C hR hS dX11_count_111
              · have hf := x_in hc6 hf
                by_cases hc7 : v1 = 7
                · have hf := x_ip hc7 hf
                  refine lv_tableIn (tgt := 112) hx hb dX11_count_1 (by rw [hc7]; decide) (by rw [hc7]; decide) (by rw [hc7] <;> rfl) rfl ?_
                  refine lv_aload_n hx hb dX11_count_112 rfl (lv_at hl 0 rfl) ?_
                  refine gf_11_1 C hR (x_k hR 0 rfl) tw_496 dX11_count_113 ?_
                  refine gf_7_15 C hR (x_k hR 9 rfl) tw_330 dX11_count_116 ?_
                  cases hf
                  exact x_iret C hR hS dX11_count_119
                · have hf := x_in hc7 hf
                  by_cases hc8 : v1 = 8
                  · have hf := x_ip hc8 hf
                    refine lv_tableIn (tgt := 120) hx hb dX11_count_1 (by rw [hc8]; decide) (by rw [hc8]; decide) (by rw [hc8] <;> rfl) rfl ?_
                    refine lv_aload_n hx hb dX11_count_120 rfl (lv_at hl 0 rfl) ?_
                    refine gf_11_1 C hR (x_k hR 0 rfl) tw_496 dX11_count_121 ?_
                    refine gf_7_12 C hR (x_k hR 9 rfl) tw_323 dX11_count_124 ?_
                    cases hf
                    exact x_iret C hR hS dX11_count_127
                  · have hf := x_in hc8 hf
                    by_cases hc9 : v1 = 9
                    · have hf := x_ip hc9 hf
                      refine lv_tableIn (tgt := 128) hx hb dX11_count_1 (by rw [hc9]; decide) (by rw [hc9]; decide) (by rw [hc9] <;> rfl) rfl ?_
                      refine lv_aload_n hx hb dX11_count_128 rfl (lv_at hl 0 rfl) ?_
                      refine gf_11_1 C hR (x_k hR 0 rfl) tw_496 dX11_count_129 ?_
                      obtain ⟨v_2, ev_2, hf⟩ := x_bd hf
                      refine x_cVi0 C hR hS (S_X7_rightInAll (x_k hR 9 rfl) ev_2) (x_k hR 9 rfl) (by decide) rfl mf_X7_rightInAll tw_610 (Nat.le_of_ble_eq_true rfl) (Nat.le_of_ble_eq_true rfl) hl.1 (Nat.le_of_ble_eq_true rfl) dX11_count_132 ⟨Nat.le_refl _, Nat.le_refl _⟩ (fun H locs hR hS => ?_)
                      cases hf
                      exact x_iret C hR hS dX11_count_135
                    · have hf := x_in hc9 hf
                      refine lv_tableOut (tgt := 136) hx hb dX11_count_1 (x_tab v1 (fun z h1 h2 => ?_)) rfl ?_
                      · have hz : z = 0 ∨ z = 1 ∨ z = 2 ∨ z = 3 ∨ z = 4 ∨ z = 5 ∨ z = 6 ∨ z = 7 ∨ z = 8 ∨ z = 9 := by omega
                        rcases hz with rfl | rfl | rfl | rfl | rfl | rfl | rfl | rfl | rfl | rfl
                        · exact hc0
                        · exact hc1
                        · exact hc2
                        · exact hc3
                        · exact hc4
                        · exact hc5
                        · exact hc6
                        · exact hc7
                        · exact hc8
                        · exact hc9
                      · refine lv_iconst (v := (-1)) hx hb dX11_count_136 rfl ?_
                        cases hf
                        exact x_iret C hR hS dX11_count_137
def f_X11_checkLaw_15 (x : Nat) (h : XH) : Option ((Nat ⊕ Unit) × XH) := some (.inl 0, h)
def f_X11_checkLaw (x : Nat) (h : XH) (v1 : Int32) : Option ((Nat ⊕ Unit) × XH) := if v1 < 0 then f_X11_checkLaw_15 x h else if v1 < (h.1 (x + 9) 8) then some (.inr (), h) else f_X11_checkLaw_15 x h
set_option maxRecDepth 20000 in
theorem B_X11_checkLaw_15 {p : Program} {l : Launch} {e : Env} {s : State} {m : MethodId} {args : Array Value} {below : List Frame} {meth : Method} {c : Code} {O : XO} {K : XK} {r : Nat ⊕ Unit} {h' : XH}   (C : x_C p s m args meth c O cX11_checkLaw 2 RX11 none)   (hst : l.stackTraces = false) (ls : Array Slot) (H : Heap) (locs : List Loc) (h : XH) (hl : lv_has ls 2 []) (hR : x_R O K h H) (hS : va_S (oA O) s.heap H locs) (hf : f_X11_checkLaw_15 (oX O) h = some (r, h')) : W p l e (x_rmX 6 90 1 6) s m args below meth c H locs 0 0 (vx_MQ below (x_XQ O K h' (x_rv x_gv r)) (x_XX O K h' (x_rv x_gv r)) args s 1 6 (oA O)) (F0 m 15 ls []) := by
  have hx := C.1
  have hb := C.2.1
  rw [f_X11_checkLaw_15] at hf
  cases hf
  exact x_thrW tf_0 C hR hS hst hl.1 (xs_28 C) dX11_checkLaw_15 dX11_checkLaw_18 dX11_checkLaw_19 dX11_checkLaw_22 dX11_checkLaw_25 (Nat.le_of_ble_eq_true rfl) (by decide) (Nat.le_of_ble_eq_true rfl) (Nat.le_of_ble_eq_true rfl) (Nat.le_of_ble_eq_true rfl) (Nat.le_of_ble_eq_true rfl)
set_option maxRecDepth 20000 in
theorem S_X11_checkLaw {l : Launch} {O : XO} {K : XK} {h : XH} {v1 : Int32}  {r : Nat ⊕ Unit} {h' : XH} (hst : l.stackTraces = false) (hf : f_X11_checkLaw (oX O) h v1 = some (r, h')) : x_MX l O K yX11_checkLaw cX11_checkLaw 2 none 6 90 1 6 h [.ref (oX O), .int v1] (x_rv x_gv r) h' := by
  refine x_enterX (by decide) (Nat.le_of_ble_eq_true rfl) (fun p e s m args below meth c C hR ls hl => ?_)
  have hS : va_S (oA O) s.heap s.heap [] := va_S.rf
  have hx := C.1
  have hb := C.2.1
  have hl : lv_has ls 2 [(0, .ref (oX O)), (1, .int v1)] := hl
  rw [f_X11_checkLaw] at hf
  refine lv_iload_n hx hb dX11_checkLaw_0 rfl (lv_at hl 1 rfl) ?_
  refine lv_if_lt (tgt := 15) hx hb dX11_checkLaw_1 rfl (fun hc => ?_) (fun hc => ?_)
  · have hf := x_ip hc hf
    exact B_X11_checkLaw_15  C  hst  ls _ _ h  (lv_sub hl [] rfl) hR hS hf
  · have hf := x_in hc hf
    refine lv_iload_n hx hb dX11_checkLaw_4 rfl (lv_at hl 1 rfl) ?_
    refine lv_aload_n hx hb dX11_checkLaw_5 rfl (lv_at hl 0 rfl) ?_
    refine gf_11_1 C hR (x_k hR 0 rfl) tw_496 dX11_checkLaw_6 ?_
    refine gf_7_8 C hR (x_k hR 9 rfl) tw_314 dX11_checkLaw_9 ?_
    refine lv_icmp_lt (tgt := 26) hx hb dX11_checkLaw_12 rfl (fun hc => ?_) (fun hc => ?_)
    · have hf := x_ip hc hf
      cases hf
      exact xx_vret C hR hS (Nat.le_of_ble_eq_true rfl) (Nat.le_of_ble_eq_true rfl) dX11_checkLaw_26
    · have hf := x_in hc hf
      exact B_X11_checkLaw_15  C  hst  ls _ _ h  (lv_sub hl [] rfl) hR hS hf
def f_X11_checkRule_15 (x : Nat) (h : XH) : Option ((Nat ⊕ Unit) × XH) := some (.inl 0, h)
def f_X11_checkRule (x : Nat) (h : XH) (v1 : Int32) : Option ((Nat ⊕ Unit) × XH) := if v1 < 0 then f_X11_checkRule_15 x h else if v1 < (h.1 (x + 9) 10) then some (.inr (), h) else f_X11_checkRule_15 x h
set_option maxRecDepth 20000 in
theorem B_X11_checkRule_15 {p : Program} {l : Launch} {e : Env} {s : State} {m : MethodId} {args : Array Value} {below : List Frame} {meth : Method} {c : Code} {O : XO} {K : XK} {r : Nat ⊕ Unit} {h' : XH}   (C : x_C p s m args meth c O cX11_checkRule 2 RX11 none)   (hst : l.stackTraces = false) (ls : Array Slot) (H : Heap) (locs : List Loc) (h : XH) (hl : lv_has ls 2 []) (hR : x_R O K h H) (hS : va_S (oA O) s.heap H locs) (hf : f_X11_checkRule_15 (oX O) h = some (r, h')) : W p l e (x_rmX 6 90 1 6) s m args below meth c H locs 0 0 (vx_MQ below (x_XQ O K h' (x_rv x_gv r)) (x_XX O K h' (x_rv x_gv r)) args s 1 6 (oA O)) (F0 m 15 ls []) := by
  have hx := C.1
  have hb := C.2.1
  rw [f_X11_checkRule_15] at hf
  cases hf
  exact x_thrW tf_0 C hR hS hst hl.1 (xs_32 C) dX11_checkRule_15 dX11_checkRule_18 dX11_checkRule_19 dX11_checkRule_22 dX11_checkRule_25 (Nat.le_of_ble_eq_true rfl) (by decide) (Nat.le_of_ble_eq_true rfl) (Nat.le_of_ble_eq_true rfl) (Nat.le_of_ble_eq_true rfl) (Nat.le_of_ble_eq_true rfl)
set_option maxRecDepth 20000 in
theorem S_X11_checkRule {l : Launch} {O : XO} {K : XK} {h : XH} {v1 : Int32}  {r : Nat ⊕ Unit} {h' : XH} (hst : l.stackTraces = false) (hf : f_X11_checkRule (oX O) h v1 = some (r, h')) : x_MX l O K yX11_checkRule cX11_checkRule 2 none 6 90 1 6 h [.ref (oX O), .int v1] (x_rv x_gv r) h' := by
  refine x_enterX (by decide) (Nat.le_of_ble_eq_true rfl) (fun p e s m args below meth c C hR ls hl => ?_)
  have hS : va_S (oA O) s.heap s.heap [] := va_S.rf
  have hx := C.1
  have hb := C.2.1
  have hl : lv_has ls 2 [(0, .ref (oX O)), (1, .int v1)] := hl
  rw [f_X11_checkRule] at hf
  refine lv_iload_n hx hb dX11_checkRule_0 rfl (lv_at hl 1 rfl) ?_
  refine lv_if_lt (tgt := 15) hx hb dX11_checkRule_1 rfl (fun hc => ?_) (fun hc => ?_)
  · have hf := x_ip hc hf
    exact B_X11_checkRule_15  C  hst  ls _ _ h  (lv_sub hl [] rfl) hR hS hf
  · have hf := x_in hc hf
    refine lv_iload_n hx hb dX11_checkRule_4 rfl (lv_at hl 1 rfl) ?_
    refine lv_aload_n hx hb dX11_checkRule_5 rfl (lv_at hl 0 rfl) ?_
    refine gf_11_1 C hR (x_k hR 0 rfl) tw_496 dX11_checkRule_6 ?_
    refine gf_7_10 C hR (x_k hR 9 rfl) tw_318 dX11_checkRule_9 ?_
    refine lv_icmp_lt (tgt := 26) hx hb dX11_checkRule_12 rfl (fun hc => ?_) (fun hc => ?_)
    · have hf := x_ip hc hf
      cases hf
      exact xx_vret C hR hS (Nat.le_of_ble_eq_true rfl) (Nat.le_of_ble_eq_true rfl) dX11_checkRule_26
    · have hf := x_in hc hf
      exact B_X11_checkRule_15  C  hst  ls _ _ h  (lv_sub hl [] rfl) hR hS hf
def f_X11_checkHouse_15 (x : Nat) (h : XH) : Option ((Nat ⊕ Unit) × XH) := some (.inl 0, h)
def f_X11_checkHouse (x : Nat) (h : XH) (v1 : Int32) : Option ((Nat ⊕ Unit) × XH) := if v1 < 0 then f_X11_checkHouse_15 x h else if v1 < (h.1 (x + 9) 1) then some (.inr (), h) else f_X11_checkHouse_15 x h
set_option maxRecDepth 20000 in
theorem B_X11_checkHouse_15 {p : Program} {l : Launch} {e : Env} {s : State} {m : MethodId} {args : Array Value} {below : List Frame} {meth : Method} {c : Code} {O : XO} {K : XK} {r : Nat ⊕ Unit} {h' : XH}   (C : x_C p s m args meth c O cX11_checkHouse 2 RX11 none)   (hst : l.stackTraces = false) (ls : Array Slot) (H : Heap) (locs : List Loc) (h : XH) (hl : lv_has ls 2 []) (hR : x_R O K h H) (hS : va_S (oA O) s.heap H locs) (hf : f_X11_checkHouse_15 (oX O) h = some (r, h')) : W p l e (x_rmX 6 90 1 6) s m args below meth c H locs 0 0 (vx_MQ below (x_XQ O K h' (x_rv x_gv r)) (x_XX O K h' (x_rv x_gv r)) args s 1 6 (oA O)) (F0 m 15 ls []) := by
  have hx := C.1
  have hb := C.2.1
  rw [f_X11_checkHouse_15] at hf
  cases hf
  exact x_thrW tf_0 C hR hS hst hl.1 (xs_13 C) dX11_checkHouse_15 dX11_checkHouse_18 dX11_checkHouse_19 dX11_checkHouse_22 dX11_checkHouse_25 (Nat.le_of_ble_eq_true rfl) (by decide) (Nat.le_of_ble_eq_true rfl) (Nat.le_of_ble_eq_true rfl) (Nat.le_of_ble_eq_true rfl) (Nat.le_of_ble_eq_true rfl)
set_option maxRecDepth 20000 in
theorem S_X11_checkHouse {l : Launch} {O : XO} {K : XK} {h : XH} {v1 : Int32}  {r : Nat ⊕ Unit} {h' : XH} (hst : l.stackTraces = false) (hf : f_X11_checkHouse (oX O) h v1 = some (r, h')) : x_MX l O K yX11_checkHouse cX11_checkHouse 2 none 6 90 1 6 h [.ref (oX O), .int v1] (x_rv x_gv r) h' := by
  refine x_enterX (by decide) (Nat.le_of_ble_eq_true rfl) (fun p e s m args below meth c C hR ls hl => ?_)
  have hS : va_S (oA O) s.heap s.heap [] := va_S.rf
  have hx := C.1
  have hb := C.2.1
  have hl : lv_has ls 2 [(0, .ref (oX O)), (1, .int v1)] := hl
  rw [f_X11_checkHouse] at hf
  refine lv_iload_n hx hb dX11_checkHouse_0 rfl (lv_at hl 1 rfl) ?_
  refine lv_if_lt (tgt := 15) hx hb dX11_checkHouse_1 rfl (fun hc => ?_) (fun hc => ?_)
  · have hf := x_ip hc hf
    exact B_X11_checkHouse_15  C  hst  ls _ _ h  (lv_sub hl [] rfl) hR hS hf
  · have hf := x_in hc hf
    refine lv_iload_n hx hb dX11_checkHouse_4 rfl (lv_at hl 1 rfl) ?_
    refine lv_aload_n hx hb dX11_checkHouse_5 rfl (lv_at hl 0 rfl) ?_
    refine gf_11_1 C hR (x_k hR 0 rfl) tw_496 dX11_checkHouse_6 ?_
    refine gf_7_1 C hR (x_k hR 9 rfl) tw_290 dX11_checkHouse_9 ?_
    refine lv_icmp_lt (tgt := 26) hx hb dX11_checkHouse_12 rfl (fun hc => ?_) (fun hc => ?_)
    · have hf := x_ip hc hf
      cases hf
      exact xx_vret C hR hS (Nat.le_of_ble_eq_true rfl) (Nat.le_of_ble_eq_true rfl) dX11_checkHouse_26
    · have hf := x_in hc hf
      exact B_X11_checkHouse_15  C  hst  ls _ _ h  (lv_sub hl [] rfl) hR hS hf
def f_X11_checkDoor_22 (x : Nat) (h : XH) : Option ((Nat ⊕ Unit) × XH) := some (.inl 0, h)
def f_X11_checkDoor (x : Nat) (h : XH) (v1 : Int32) (v2 : Int32) : Option ((Nat ⊕ Unit) × XH) := x_xb (f_X11_checkHouse x h v1) (fun _ h1 => if v2 < 0 then f_X11_checkDoor_22 x h1 else if x_b v1 6 = true then if v2 < (h1.1 (x + 11) v1.toNatClampNeg) then some (.inr (), h1) else f_X11_checkDoor_22 x h1 else none)
set_option maxRecDepth 20000 in
theorem B_X11_checkDoor_22 {p : Program} {l : Launch} {e : Env} {s : State} {m : MethodId} {args : Array Value} {below : List Frame} {meth : Method} {c : Code} {O : XO} {K : XK} {r : Nat ⊕ Unit} {h' : XH}   (C : x_C p s m args meth c O cX11_checkDoor 3 RX11 none)   (hst : l.stackTraces = false) (ls : Array Slot) (H : Heap) (locs : List Loc) (h : XH) (hl : lv_has ls 3 []) (hR : x_R O K h H) (hS : va_S (oA O) s.heap H locs) (hf : f_X11_checkDoor_22 (oX O) h = some (r, h')) : W p l e (x_rmX 7 111 2 12) s m args below meth c H locs 1 6 (vx_MQ below (x_XQ O K h' (x_rv x_gv r)) (x_XX O K h' (x_rv x_gv r)) args s 2 12 (oA O)) (F0 m 22 ls []) := by
  have hx := C.1
  have hb := C.2.1
  rw [f_X11_checkDoor_22] at hf
  cases hf
  exact x_thrW tf_0 C hR hS hst hl.1 (xs_14 C) dX11_checkDoor_22 dX11_checkDoor_25 dX11_checkDoor_26 dX11_checkDoor_29 dX11_checkDoor_32 (Nat.le_of_ble_eq_true rfl) (by decide) (Nat.le_of_ble_eq_true rfl) (Nat.le_of_ble_eq_true rfl) (Nat.le_of_ble_eq_true rfl) (Nat.le_of_ble_eq_true rfl)
set_option maxRecDepth 20000 in
theorem S_X11_checkDoor {l : Launch} {O : XO} {K : XK} {h : XH} {v1 : Int32} {v2 : Int32}  {r : Nat ⊕ Unit} {h' : XH} (hst : l.stackTraces = false) (hf : f_X11_checkDoor (oX O) h v1 v2 = some (r, h')) : x_MX l O K yX11_checkDoor cX11_checkDoor 3 none 7 111 2 12 h [.ref (oX O), .int v1, .int v2] (x_rv x_gv r) h' := by
  refine x_enterX (by decide) (Nat.le_of_ble_eq_true rfl) (fun p e s m args below meth c C hR ls hl => ?_)
  have hS : va_S (oA O) s.heap s.heap [] := va_S.rf
  have hx := C.1
  have hb := C.2.1
  have hl : lv_has ls 3 [(0, .ref (oX O)), (1, .int v1), (2, .int v2)] := hl
  rw [f_X11_checkDoor] at hf
  refine lv_aload_n hx hb dX11_checkDoor_0 rfl (lv_at hl 0 rfl) ?_
  refine lv_iload_n hx hb dX11_checkDoor_1 rfl (lv_at hl 1 rfl) ?_
  obtain ⟨s1_, h1, eh1, ht1, hf⟩ := x_xbd hf
  refine x_xVv1 C hR hS (S_X11_checkHouse hst eh1) (x_k hR 0 rfl) (by decide) rfl mf_X11_checkHouse tw_924 (Nat.le_of_ble_eq_true rfl) (Nat.le_of_ble_eq_true rfl) hl.1 (Nat.le_of_ble_eq_true rfl) dX11_checkDoor_2 ⟨Nat.le_of_ble_eq_true rfl, Nat.le_of_ble_eq_true rfl⟩ (x_thx ht1) (Nat.le_of_ble_eq_true rfl) (Nat.le_of_ble_eq_true rfl) (fun hs1 H locs hR hS => ?_)
  have hf := hf () hs1
  refine lv_iload_n hx hb dX11_checkDoor_5 rfl (lv_at hl 2 rfl) ?_
  refine lv_if_lt (tgt := 22) hx hb dX11_checkDoor_6 rfl (fun hc => ?_) (fun hc => ?_)
  · have hf := x_ip hc hf
    exact B_X11_checkDoor_22  C  hst  ls _ _ h1  (lv_sub hl [] rfl) hR hS hf
  · have hf := x_in hc hf
    refine lv_iload_n hx hb dX11_checkDoor_9 rfl (lv_at hl 2 rfl) ?_
    refine lv_aload_n hx hb dX11_checkDoor_10 rfl (lv_at hl 0 rfl) ?_
    refine gf_11_1 C hR (x_k hR 0 rfl) tw_496 dX11_checkDoor_11 ?_
    refine gf_7_2 C hR (x_k hR 9 rfl) tw_293 dX11_checkDoor_14 ?_
    refine lv_iload_n hx hb dX11_checkDoor_17 rfl (lv_at hl 1 rfl) ?_
    obtain ⟨g2, hf⟩ := x_gd hf
    refine x_iald C hR (x_k1 (x_k hR 11 rfl)) (x_k2 (x_k hR 11 rfl) g2) dX11_checkDoor_18 ?_
    refine lv_icmp_lt (tgt := 33) hx hb dX11_checkDoor_19 rfl (fun hc => ?_) (fun hc => ?_)
    · have hf := x_ip hc hf
      cases hf
      exact xx_vret C hR hS (Nat.le_of_ble_eq_true rfl) (Nat.le_of_ble_eq_true rfl) dX11_checkDoor_33
    · have hf := x_in hc hf
      exact B_X11_checkDoor_22  C  hst  ls _ _ h1  (lv_sub hl [] rfl) hR hS hf
def f_X11_checkPack_15 (x : Nat) (h : XH) : Option ((Nat ⊕ Unit) × XH) := some (.inl 0, h)
def f_X11_checkPack (x : Nat) (h : XH) (v1 : Int32) : Option ((Nat ⊕ Unit) × XH) := if v1 < 0 then f_X11_checkPack_15 x h else if v1 < (h.1 (x + 9) 4) then some (.inr (), h) else f_X11_checkPack_15 x h
set_option maxRecDepth 20000 in
theorem B_X11_checkPack_15 {p : Program} {l : Launch} {e : Env} {s : State} {m : MethodId} {args : Array Value} {below : List Frame} {meth : Method} {c : Code} {O : XO} {K : XK} {r : Nat ⊕ Unit} {h' : XH}   (C : x_C p s m args meth c O cX11_checkPack 2 RX11 none)   (hst : l.stackTraces = false) (ls : Array Slot) (H : Heap) (locs : List Loc) (h : XH) (hl : lv_has ls 2 []) (hR : x_R O K h H) (hS : va_S (oA O) s.heap H locs) (hf : f_X11_checkPack_15 (oX O) h = some (r, h')) : W p l e (x_rmX 6 90 1 6) s m args below meth c H locs 0 0 (vx_MQ below (x_XQ O K h' (x_rv x_gv r)) (x_XX O K h' (x_rv x_gv r)) args s 1 6 (oA O)) (F0 m 15 ls []) := by
  have hx := C.1
  have hb := C.2.1
  rw [f_X11_checkPack_15] at hf
  cases hf
  exact x_thrW tf_0 C hR hS hst hl.1 (xs_18 C) dX11_checkPack_15 dX11_checkPack_18 dX11_checkPack_19 dX11_checkPack_22 dX11_checkPack_25 (Nat.le_of_ble_eq_true rfl) (by decide) (Nat.le_of_ble_eq_true rfl) (Nat.le_of_ble_eq_true rfl) (Nat.le_of_ble_eq_true rfl) (Nat.le_of_ble_eq_true rfl)
set_option maxRecDepth 20000 in
theorem S_X11_checkPack {l : Launch} {O : XO} {K : XK} {h : XH} {v1 : Int32}  {r : Nat ⊕ Unit} {h' : XH} (hst : l.stackTraces = false) (hf : f_X11_checkPack (oX O) h v1 = some (r, h')) : x_MX l O K yX11_checkPack cX11_checkPack 2 none 6 90 1 6 h [.ref (oX O), .int v1] (x_rv x_gv r) h' := by
  refine x_enterX (by decide) (Nat.le_of_ble_eq_true rfl) (fun p e s m args below meth c C hR ls hl => ?_)
  have hS : va_S (oA O) s.heap s.heap [] := va_S.rf
  have hx := C.1
  have hb := C.2.1
  have hl : lv_has ls 2 [(0, .ref (oX O)), (1, .int v1)] := hl
  rw [f_X11_checkPack] at hf
  refine lv_iload_n hx hb dX11_checkPack_0 rfl (lv_at hl 1 rfl) ?_
  refine lv_if_lt (tgt := 15) hx hb dX11_checkPack_1 rfl (fun hc => ?_) (fun hc => ?_)
  · have hf := x_ip hc hf
    exact B_X11_checkPack_15  C  hst  ls _ _ h  (lv_sub hl [] rfl) hR hS hf
  · have hf := x_in hc hf
    refine lv_iload_n hx hb dX11_checkPack_4 rfl (lv_at hl 1 rfl) ?_
    refine lv_aload_n hx hb dX11_checkPack_5 rfl (lv_at hl 0 rfl) ?_
    refine gf_11_1 C hR (x_k hR 0 rfl) tw_496 dX11_checkPack_6 ?_
    refine gf_7_4 C hR (x_k hR 9 rfl) tw_299 dX11_checkPack_9 ?_
    refine lv_icmp_lt (tgt := 26) hx hb dX11_checkPack_12 rfl (fun hc => ?_) (fun hc => ?_)
    · have hf := x_ip hc hf
      cases hf
      exact xx_vret C hR hS (Nat.le_of_ble_eq_true rfl) (Nat.le_of_ble_eq_true rfl) dX11_checkPack_26
    · have hf := x_in hc hf
      exact B_X11_checkPack_15  C  hst  ls _ _ h  (lv_sub hl [] rfl) hR hS hf
def f_X11_checkPlaceIn_25 (x : Nat) (h : XH) : Option ((Nat ⊕ Unit) × XH) := some (.inl 0, h)
def f_X11_checkPlaceIn (x : Nat) (h : XH) (v1 : Int32) (v2 : Int32) : Option ((Nat ⊕ Unit) × XH) := x_xb (f_X11_checkPack x h v1) (fun _ h1 => if v2 < 0 then f_X11_checkPlaceIn_25 x h1 else if x_b v1 8 = true then if v2 < (h1.1 ((x + 13) + 6 + 3 * v1.toNatClampNeg) 2) then some (.inr (), h1) else f_X11_checkPlaceIn_25 x h1 else none)
set_option maxRecDepth 20000 in
theorem B_X11_checkPlaceIn_25 {p : Program} {l : Launch} {e : Env} {s : State} {m : MethodId} {args : Array Value} {below : List Frame} {meth : Method} {c : Code} {O : XO} {K : XK} {r : Nat ⊕ Unit} {h' : XH}   (C : x_C p s m args meth c O cX11_checkPlaceIn 3 RX11 none)   (hst : l.stackTraces = false) (ls : Array Slot) (H : Heap) (locs : List Loc) (h : XH) (hl : lv_has ls 3 []) (hR : x_R O K h H) (hS : va_S (oA O) s.heap H locs) (hf : f_X11_checkPlaceIn_25 (oX O) h = some (r, h')) : W p l e (x_rmX 7 111 2 12) s m args below meth c H locs 1 6 (vx_MQ below (x_XQ O K h' (x_rv x_gv r)) (x_XX O K h' (x_rv x_gv r)) args s 2 12 (oA O)) (F0 m 25 ls []) := by
  have hx := C.1
  have hb := C.2.1
  rw [f_X11_checkPlaceIn_25] at hf
  cases hf
  exact x_thrW tf_0 C hR hS hst hl.1 (xs_19 C) dX11_checkPlaceIn_25 dX11_checkPlaceIn_28 dX11_checkPlaceIn_29 dX11_checkPlaceIn_32 dX11_checkPlaceIn_35 (Nat.le_of_ble_eq_true rfl) (by decide) (Nat.le_of_ble_eq_true rfl) (Nat.le_of_ble_eq_true rfl) (Nat.le_of_ble_eq_true rfl) (Nat.le_of_ble_eq_true rfl)
set_option maxRecDepth 20000 in
theorem S_X11_checkPlaceIn {l : Launch} {O : XO} {K : XK} {h : XH} {v1 : Int32} {v2 : Int32}  {r : Nat ⊕ Unit} {h' : XH} (hst : l.stackTraces = false) (hf : f_X11_checkPlaceIn (oX O) h v1 v2 = some (r, h')) : x_MX l O K yX11_checkPlaceIn cX11_checkPlaceIn 3 none 7 111 2 12 h [.ref (oX O), .int v1, .int v2] (x_rv x_gv r) h' := by
  refine x_enterX (by decide) (Nat.le_of_ble_eq_true rfl) (fun p e s m args below meth c C hR ls hl => ?_)
  have hS : va_S (oA O) s.heap s.heap [] := va_S.rf
  have hx := C.1
  have hb := C.2.1
  have hl : lv_has ls 3 [(0, .ref (oX O)), (1, .int v1), (2, .int v2)] := hl
  rw [f_X11_checkPlaceIn] at hf
  refine lv_aload_n hx hb dX11_checkPlaceIn_0 rfl (lv_at hl 0 rfl) ?_
  refine lv_iload_n hx hb dX11_checkPlaceIn_1 rfl (lv_at hl 1 rfl) ?_
  obtain ⟨s1_, h1, eh1, ht1, hf⟩ := x_xbd hf
  refine x_xVv1 C hR hS (S_X11_checkPack hst eh1) (x_k hR 0 rfl) (by decide) rfl mf_X11_checkPack tw_959 (Nat.le_of_ble_eq_true rfl) (Nat.le_of_ble_eq_true rfl) hl.1 (Nat.le_of_ble_eq_true rfl) dX11_checkPlaceIn_2 ⟨Nat.le_of_ble_eq_true rfl, Nat.le_of_ble_eq_true rfl⟩ (x_thx ht1) (Nat.le_of_ble_eq_true rfl) (Nat.le_of_ble_eq_true rfl) (fun hs1 H locs hR hS => ?_)
  have hf := hf () hs1
  refine lv_iload_n hx hb dX11_checkPlaceIn_5 rfl (lv_at hl 2 rfl) ?_
  refine lv_if_lt (tgt := 25) hx hb dX11_checkPlaceIn_6 rfl (fun hc => ?_) (fun hc => ?_)
  · have hf := x_ip hc hf
    exact B_X11_checkPlaceIn_25  C  hst  ls _ _ h1  (lv_sub hl [] rfl) hR hS hf
  · have hf := x_in hc hf
    refine lv_iload_n hx hb dX11_checkPlaceIn_9 rfl (lv_at hl 2 rfl) ?_
    refine lv_aload_n hx hb dX11_checkPlaceIn_10 rfl (lv_at hl 0 rfl) ?_
    refine gf_11_1 C hR (x_k hR 0 rfl) tw_496 dX11_checkPlaceIn_11 ?_
    refine gf_7_5 C hR (x_k hR 9 rfl) tw_305 dX11_checkPlaceIn_14 ?_
    refine lv_iload_n hx hb dX11_checkPlaceIn_17 rfl (lv_at hl 1 rfl) ?_
    obtain ⟨g2, hf⟩ := x_gd hf
    refine x_paald C hR (x_k1 (x_k hR 13 rfl)) (x_k2 (x_k hR 13 rfl) g2) dX11_checkPlaceIn_18 ?_
    refine gf_2_2 C hR (x_kP hR (x_k hR 13 rfl) g2) tw_256 dX11_checkPlaceIn_19 ?_
    refine lv_icmp_lt (tgt := 36) hx hb dX11_checkPlaceIn_22 rfl (fun hc => ?_) (fun hc => ?_)
    · have hf := x_ip hc hf
      cases hf
      exact xx_vret C hR hS (Nat.le_of_ble_eq_true rfl) (Nat.le_of_ble_eq_true rfl) dX11_checkPlaceIn_36
    · have hf := x_in hc hf
      exact B_X11_checkPlaceIn_25  C  hst  ls _ _ h1  (lv_sub hl [] rfl) hR hS hf
def f_X11_checkPut (x : Nat) (h : XH) (v1 : Int32) : Option ((Nat ⊕ Unit) × XH) := x_xb (f_X11_checkPack x h v1) (fun _ h1 => if x_b v1 8 = true then if (h1.1 ((x + 13) + 6 + 3 * v1.toNatClampNeg) 3) = 0 then some (.inl 2, h1) else some (.inr (), h1) else none)
set_option maxRecDepth 20000 in
theorem S_X11_checkPut {l : Launch} {O : XO} {K : XK} {h : XH} {v1 : Int32}  {r : Nat ⊕ Unit} {h' : XH} (hst : l.stackTraces = false) (hf : f_X11_checkPut (oX O) h v1 = some (r, h')) : x_MX l O K yX11_checkPut cX11_checkPut 2 none 7 111 2 12 h [.ref (oX O), .int v1] (x_rv x_gv r) h' := by
  refine x_enterX (by decide) (Nat.le_of_ble_eq_true rfl) (fun p e s m args below meth c C hR ls hl => ?_)
  have hS : va_S (oA O) s.heap s.heap [] := va_S.rf
  have hx := C.1
  have hb := C.2.1
  have hl : lv_has ls 2 [(0, .ref (oX O)), (1, .int v1)] := hl
  rw [f_X11_checkPut] at hf
  refine lv_aload_n hx hb dX11_checkPut_0 rfl (lv_at hl 0 rfl) ?_
  refine lv_iload_n hx hb dX11_checkPut_1 rfl (lv_at hl 1 rfl) ?_
  obtain ⟨s1_, h1, eh1, ht1, hf⟩ := x_xbd hf
  refine x_xVv1 C hR hS (S_X11_checkPack hst eh1) (x_k hR 0 rfl) (by decide) rfl mf_X11_checkPack tw_959 (Nat.le_of_ble_eq_true rfl) (Nat.le_of_ble_eq_true rfl) hl.1 (Nat.le_of_ble_eq_true rfl) dX11_checkPut_2 ⟨Nat.le_of_ble_eq_true rfl, Nat.le_of_ble_eq_true rfl⟩ (x_thx ht1) (Nat.le_of_ble_eq_true rfl) (Nat.le_of_ble_eq_true rfl) (fun hs1 H locs hR hS => ?_)
  have hf := hf () hs1
  refine lv_aload_n hx hb dX11_checkPut_5 rfl (lv_at hl 0 rfl) ?_
  refine gf_11_1 C hR (x_k hR 0 rfl) tw_496 dX11_checkPut_6 ?_
  refine gf_7_5 C hR (x_k hR 9 rfl) tw_305 dX11_checkPut_9 ?_
  refine lv_iload_n hx hb dX11_checkPut_12 rfl (lv_at hl 1 rfl) ?_
  obtain ⟨g2, hf⟩ := x_gd hf
  refine x_paald C hR (x_k1 (x_k hR 13 rfl)) (x_k2 (x_k hR 13 rfl) g2) dX11_checkPut_13 ?_
  refine gf_2_3 C hR (x_kP hR (x_k hR 13 rfl) g2) tw_261 dX11_checkPut_14 ?_
  refine lv_if_ne (tgt := 31) hx hb dX11_checkPut_17 rfl (fun hc => ?_) (fun hc => ?_)
  · have hf := x_in hc hf
    cases hf
    exact xx_vret C hR hS (Nat.le_of_ble_eq_true rfl) (Nat.le_of_ble_eq_true rfl) dX11_checkPut_31
  · have hf := x_ip hc hf
    cases hf
    exact x_thrW tf_2 C hR hS hst hl.1 (xs_26 C) dX11_checkPut_20 dX11_checkPut_23 dX11_checkPut_24 dX11_checkPut_27 dX11_checkPut_30 (Nat.le_of_ble_eq_true rfl) (by decide) (Nat.le_of_ble_eq_true rfl) (Nat.le_of_ble_eq_true rfl) (Nat.le_of_ble_eq_true rfl) (Nat.le_of_ble_eq_true rfl)
def f_X11_checkPer_10 (x : Nat) (h : XH) : Option ((Nat ⊕ Unit) × XH) := some (.inl 1, h)
def f_X11_checkPer (x : Nat) (h : XH) (v1 : Int32) : Option ((Nat ⊕ Unit) × XH) := if v1 < 1 then f_X11_checkPer_10 x h else if v1 ≤ 3 then some (.inr (), h) else f_X11_checkPer_10 x h
set_option maxRecDepth 20000 in
theorem B_X11_checkPer_10 {p : Program} {l : Launch} {e : Env} {s : State} {m : MethodId} {args : Array Value} {below : List Frame} {meth : Method} {c : Code} {O : XO} {K : XK} {r : Nat ⊕ Unit} {h' : XH}   (C : x_C p s m args meth c O cX11_checkPer 2 RX11 none)   (hst : l.stackTraces = false) (ls : Array Slot) (H : Heap) (locs : List Loc) (h : XH) (hl : lv_has ls 2 []) (hR : x_R O K h H) (hS : va_S (oA O) s.heap H locs) (hf : f_X11_checkPer_10 (oX O) h = some (r, h')) : W p l e (x_rmX 6 90 1 6) s m args below meth c H locs 0 0 (vx_MQ below (x_XQ O K h' (x_rv x_gv r)) (x_XX O K h' (x_rv x_gv r)) args s 1 6 (oA O)) (F0 m 10 ls []) := by
  have hx := C.1
  have hb := C.2.1
  rw [f_X11_checkPer_10] at hf
  cases hf
  exact x_thrW tf_1 C hR hS hst hl.1 (xs_21 C) dX11_checkPer_10 dX11_checkPer_13 dX11_checkPer_14 dX11_checkPer_17 dX11_checkPer_20 (Nat.le_of_ble_eq_true rfl) (by decide) (Nat.le_of_ble_eq_true rfl) (Nat.le_of_ble_eq_true rfl) (Nat.le_of_ble_eq_true rfl) (Nat.le_of_ble_eq_true rfl)
set_option maxRecDepth 20000 in
theorem S_X11_checkPer {l : Launch} {O : XO} {K : XK} {h : XH} {v1 : Int32}  {r : Nat ⊕ Unit} {h' : XH} (hst : l.stackTraces = false) (hf : f_X11_checkPer (oX O) h v1 = some (r, h')) : x_MX l O K yX11_checkPer cX11_checkPer 2 none 6 90 1 6 h [.ref (oX O), .int v1] (x_rv x_gv r) h' := by
  refine x_enterX (by decide) (Nat.le_of_ble_eq_true rfl) (fun p e s m args below meth c C hR ls hl => ?_)
  have hS : va_S (oA O) s.heap s.heap [] := va_S.rf
  have hx := C.1
  have hb := C.2.1
  have hl : lv_has ls 2 [(0, .ref (oX O)), (1, .int v1)] := hl
  rw [f_X11_checkPer] at hf
  refine lv_iload_n hx hb dX11_checkPer_0 rfl (lv_at hl 1 rfl) ?_
  refine lv_iconst (v := 1) hx hb dX11_checkPer_1 rfl ?_
  refine lv_icmp_lt (tgt := 10) hx hb dX11_checkPer_2 rfl (fun hc => ?_) (fun hc => ?_)
  · have hf := x_ip hc hf
    exact B_X11_checkPer_10  C  hst  ls _ _ h  (lv_sub hl [] rfl) hR hS hf
  · have hf := x_in hc hf
    refine lv_iload_n hx hb dX11_checkPer_5 rfl (lv_at hl 1 rfl) ?_
    refine lv_iconst (v := 3) hx hb dX11_checkPer_6 rfl ?_
    refine lv_icmp_le (tgt := 21) hx hb dX11_checkPer_7 rfl (fun hc => ?_) (fun hc => ?_)
    · have hf := x_ip hc hf
      cases hf
      exact xx_vret C hR hS (Nat.le_of_ble_eq_true rfl) (Nat.le_of_ble_eq_true rfl) dX11_checkPer_21
    · have hf := x_in hc hf
      exact B_X11_checkPer_10  C  hst  ls _ _ h  (lv_sub hl [] rfl) hR hS hf
def f_X11_checkSeconds_11 (x : Nat) (h : XH) : Option ((Nat ⊕ Unit) × XH) := some (.inl 1, h)
def f_X11_checkSeconds (x : Nat) (h : XH) (v1 : Int32) : Option ((Nat ⊕ Unit) × XH) := if v1 < 1 then f_X11_checkSeconds_11 x h else if v1 ≤ 60 then some (.inr (), h) else f_X11_checkSeconds_11 x h
set_option maxRecDepth 20000 in
theorem B_X11_checkSeconds_11 {p : Program} {l : Launch} {e : Env} {s : State} {m : MethodId} {args : Array Value} {below : List Frame} {meth : Method} {c : Code} {O : XO} {K : XK} {r : Nat ⊕ Unit} {h' : XH}   (C : x_C p s m args meth c O cX11_checkSeconds 2 RX11 none)   (hst : l.stackTraces = false) (ls : Array Slot) (H : Heap) (locs : List Loc) (h : XH) (hl : lv_has ls 2 []) (hR : x_R O K h H) (hS : va_S (oA O) s.heap H locs) (hf : f_X11_checkSeconds_11 (oX O) h = some (r, h')) : W p l e (x_rmX 6 90 1 6) s m args below meth c H locs 0 0 (vx_MQ below (x_XQ O K h' (x_rv x_gv r)) (x_XX O K h' (x_rv x_gv r)) args s 1 6 (oA O)) (F0 m 11 ls []) := by
  have hx := C.1
  have hb := C.2.1
  rw [f_X11_checkSeconds_11] at hf
  cases hf
  exact x_thrW tf_1 C hR hS hst hl.1 (xs_22 C) dX11_checkSeconds_11 dX11_checkSeconds_14 dX11_checkSeconds_15 dX11_checkSeconds_18 dX11_checkSeconds_21 (Nat.le_of_ble_eq_true rfl) (by decide) (Nat.le_of_ble_eq_true rfl) (Nat.le_of_ble_eq_true rfl) (Nat.le_of_ble_eq_true rfl) (Nat.le_of_ble_eq_true rfl)
set_option maxRecDepth 20000 in
theorem S_X11_checkSeconds {l : Launch} {O : XO} {K : XK} {h : XH} {v1 : Int32}  {r : Nat ⊕ Unit} {h' : XH} (hst : l.stackTraces = false) (hf : f_X11_checkSeconds (oX O) h v1 = some (r, h')) : x_MX l O K yX11_checkSeconds cX11_checkSeconds 2 none 6 90 1 6 h [.ref (oX O), .int v1] (x_rv x_gv r) h' := by
  refine x_enterX (by decide) (Nat.le_of_ble_eq_true rfl) (fun p e s m args below meth c C hR ls hl => ?_)
  have hS : va_S (oA O) s.heap s.heap [] := va_S.rf
  have hx := C.1
  have hb := C.2.1
  have hl : lv_has ls 2 [(0, .ref (oX O)), (1, .int v1)] := hl
  rw [f_X11_checkSeconds] at hf
  refine lv_iload_n hx hb dX11_checkSeconds_0 rfl (lv_at hl 1 rfl) ?_
  refine lv_iconst (v := 1) hx hb dX11_checkSeconds_1 rfl ?_
  refine lv_icmp_lt (tgt := 11) hx hb dX11_checkSeconds_2 rfl (fun hc => ?_) (fun hc => ?_)
  · have hf := x_ip hc hf
    exact B_X11_checkSeconds_11  C  hst  ls _ _ h  (lv_sub hl [] rfl) hR hS hf
  · have hf := x_in hc hf
    refine lv_iload_n hx hb dX11_checkSeconds_5 rfl (lv_at hl 1 rfl) ?_
    refine lv_bipush (v := 60) hx hb dX11_checkSeconds_6 rfl ?_
    refine lv_icmp_le (tgt := 22) hx hb dX11_checkSeconds_8 rfl (fun hc => ?_) (fun hc => ?_)
    · have hf := x_ip hc hf
      cases hf
      exact xx_vret C hR hS (Nat.le_of_ble_eq_true rfl) (Nat.le_of_ble_eq_true rfl) dX11_checkSeconds_22
    · have hf := x_in hc hf
      exact B_X11_checkSeconds_11  C  hst  ls _ _ h  (lv_sub hl [] rfl) hR hS hf
def f_X11_checkClock (x : Nat) (h : XH) (v1 : Int32) : Option ((Nat ⊕ Unit) × XH) := if v1 ≤ (1000000 - (h.1 (x + 9) 7)) then some (.inr (), h) else some (.inl 1, h)
set_option maxRecDepth 20000 in
theorem S_X11_checkClock {l : Launch} {O : XO} {K : XK} {h : XH} {v1 : Int32}  {r : Nat ⊕ Unit} {h' : XH} (hst : l.stackTraces = false) (hf : f_X11_checkClock (oX O) h v1 = some (r, h')) : x_MX l O K yX11_checkClock cX11_checkClock 2 none 6 90 1 6 h [.ref (oX O), .int v1] (x_rv x_gv r) h' := by
  refine x_enterX (by decide) (Nat.le_of_ble_eq_true rfl) (fun p e s m args below meth c C hR ls hl => ?_)
  have hS : va_S (oA O) s.heap s.heap [] := va_S.rf
  have hx := C.1
  have hb := C.2.1
  have hl : lv_has ls 2 [(0, .ref (oX O)), (1, .int v1)] := hl
  rw [f_X11_checkClock] at hf
  refine lv_iload_n hx hb dX11_checkClock_0 rfl (lv_at hl 1 rfl) ?_
  refine lv_ldcw hx hb C.2.2.2.1 (C.2.2.2.2.1 _ tw_1009) dX11_checkClock_1 ?_
  refine lv_aload_n hx hb dX11_checkClock_4 rfl (lv_at hl 0 rfl) ?_
  refine gf_11_1 C hR (x_k hR 0 rfl) tw_496 dX11_checkClock_5 ?_
  refine gf_7_7 C hR (x_k hR 9 rfl) tw_312 dX11_checkClock_8 ?_
  refine lv_isub hx hb dX11_checkClock_11 ?_
  refine lv_icmp_le (tgt := 26) hx hb dX11_checkClock_12 rfl (fun hc => ?_) (fun hc => ?_)
  · have hf := x_ip hc hf
    cases hf
    exact xx_vret C hR hS (Nat.le_of_ble_eq_true rfl) (Nat.le_of_ble_eq_true rfl) dX11_checkClock_26
  · have hf := x_in hc hf
    cases hf
    exact x_thrW tf_1 C hR hS hst hl.1 (xs_24 C) dX11_checkClock_15 dX11_checkClock_18 dX11_checkClock_19 dX11_checkClock_22 dX11_checkClock_25 (Nat.le_of_ble_eq_true rfl) (by decide) (Nat.le_of_ble_eq_true rfl) (Nat.le_of_ble_eq_true rfl) (Nat.le_of_ble_eq_true rfl) (Nat.le_of_ble_eq_true rfl)
def f_X11_checkPlanned_20 (x : Nat) (h : XH) : Option ((Nat ⊕ Unit) × XH) := some (.inl 1, h)
def f_X11_checkPlanned_79 (k33 : XH → Int32 → Int32 → Option ((Nat ⊕ Unit) × XH)) (x : Nat) (h : XH) (v1 : Int32) (v2 : Int32) : Option ((Nat ⊕ Unit) × XH) := k33 h v1 (v2 + 1)
def f_X11_checkPlanned_33 (x : Nat) : Nat → XH → Int32 → Int32 → Option ((Nat ⊕ Unit) × XH)
  | 0, _, _, _ => none
  | n + 1, h, v1, v2 => if (h.1 (x + 9) 4) ≤ v2 then some (.inr (), h) else if ((x_shr v1 v2) &&& 1) = 1 then if x_b v2 8 = true then if (h.1 ((x + 13) + 6 + 3 * v2.toNatClampNeg) 3) = 0 then f_X11_checkPlanned_79 (f_X11_checkPlanned_33 x n) x h v1 v2 else some (.inl 1, h) else none else f_X11_checkPlanned_79 (f_X11_checkPlanned_33 x n) x h v1 v2
def f_X11_checkPlanned (x : Nat) (h : XH) (v1 : Int32) : Option ((Nat ⊕ Unit) × XH) := if (x_shr v1 (h.1 (x + 9) 4)) = 0 then if (f_J6_bitCount_0f7a4 h v1) ≤ 5 then f_X11_checkPlanned_33 x x_FU h v1 0 else f_X11_checkPlanned_20 x h else f_X11_checkPlanned_20 x h
set_option maxRecDepth 20000 in
theorem B_X11_checkPlanned_20 {p : Program} {l : Launch} {e : Env} {s : State} {m : MethodId} {args : Array Value} {below : List Frame} {meth : Method} {c : Code} {O : XO} {K : XK} {r : Nat ⊕ Unit} {h' : XH}   (C : x_C p s m args meth c O cX11_checkPlanned 3 RX11 none)   (hst : l.stackTraces = false) (ls : Array Slot) (H : Heap) (locs : List Loc) (h : XH) (hl : lv_has ls 3 []) (hR : x_R O K h H) (hS : va_S (oA O) s.heap H locs) (hf : f_X11_checkPlanned_20 (oX O) h = some (r, h')) : W p l e (x_rmX 6 90 1 6) s m args below meth c H locs 0 0 (vx_MQ below (x_XQ O K h' (x_rv x_gv r)) (x_XX O K h' (x_rv x_gv r)) args s 1 6 (oA O)) (F0 m 20 ls []) := by
  have hx := C.1
  have hb := C.2.1
  rw [f_X11_checkPlanned_20] at hf
  cases hf
  exact x_thrW tf_1 C hR hS hst hl.1 (xs_41 C) dX11_checkPlanned_20 dX11_checkPlanned_23 dX11_checkPlanned_24 dX11_checkPlanned_27 dX11_checkPlanned_30 (Nat.le_of_ble_eq_true rfl) (by decide) (Nat.le_of_ble_eq_true rfl) (Nat.le_of_ble_eq_true rfl) (Nat.le_of_ble_eq_true rfl) (Nat.le_of_ble_eq_true rfl)
set_option maxRecDepth 20000 in
theorem B_X11_checkPlanned_79 {p : Program} {l : Launch} {e : Env} {s : State} {m : MethodId} {args : Array Value} {below : List Frame} {meth : Method} {c : Code} {O : XO} {K : XK} {r : Nat ⊕ Unit} {h' : XH}  {k33 : XH → Int32 → Int32 → Option ((Nat ⊕ Unit) × XH)} (C : x_C p s m args meth c O cX11_checkPlanned 3 RX11 none) (hk33 : ∀ (ls : Array Slot) (H : Heap) (locs : List Loc) (h : XH) (v1 : Int32) (v2 : Int32), lv_has ls 3 [(0, .ref (oX O)), (1, .int v1), (2, .int v2)] → x_R O K h H → va_S (oA O) s.heap H locs → k33 h v1 v2 = some (r, h') → W p l e (x_rmX 6 90 1 6) s m args below meth c H locs 0 0 (vx_MQ below (x_XQ O K h' (x_rv x_gv r)) (x_XX O K h' (x_rv x_gv r)) args s 1 6 (oA O)) (F0 m 33 ls []))  (hst : l.stackTraces = false) (ls : Array Slot) (H : Heap) (locs : List Loc) (h : XH) (v1 : Int32) (v2 : Int32) (hl : lv_has ls 3 [(0, .ref (oX O)), (1, .int v1), (2, .int v2)]) (hR : x_R O K h H) (hS : va_S (oA O) s.heap H locs) (hf : f_X11_checkPlanned_79 k33 (oX O) h v1 v2 = some (r, h')) : W p l e (x_rmX 6 90 1 6) s m args below meth c H locs 0 0 (vx_MQ below (x_XQ O K h' (x_rv x_gv r)) (x_XX O K h' (x_rv x_gv r)) args s 1 6 (oA O)) (F0 m 79 ls []) := by
  have hx := C.1
  have hb := C.2.1
  rw [f_X11_checkPlanned_79] at hf
  refine lv_iinc (k := 2) (v := _ + 1) (lv' := [(2, _), (0, _), (1, _)]) hx hb dX11_checkPlanned_79 hl rfl (x_inc 1 1 rfl _) (Nat.le_of_ble_eq_true rfl) rfl (fun ls hl => ?_)
  refine lv_goto (tgt := 33) hx hb dX11_checkPlanned_82 rfl ?_
  exact hk33 ls _ _ h _ _  (lv_sub hl [1, 2, 0] rfl) hR hS hf
set_option maxRecDepth 20000 in
theorem B_X11_checkPlanned_33 {p : Program} {l : Launch} {e : Env} {s : State} {m : MethodId} {args : Array Value} {below : List Frame} {meth : Method} {c : Code} {O : XO} {K : XK} {r : Nat ⊕ Unit} {h' : XH}   (C : x_C p s m args meth c O cX11_checkPlanned 3 RX11 none)   (hst : l.stackTraces = false) : ∀ (n : Nat) (ls : Array Slot) (H : Heap) (locs : List Loc) (h : XH) (v1 : Int32) (v2 : Int32) (hl : lv_has ls 3 [(0, .ref (oX O)), (1, .int v1), (2, .int v2)]) (hR : x_R O K h H) (hS : va_S (oA O) s.heap H locs) (hf : f_X11_checkPlanned_33 (oX O) n h v1 v2 = some (r, h')), W p l e (x_rmX 6 90 1 6) s m args below meth c H locs 0 0 (vx_MQ below (x_XQ O K h' (x_rv x_gv r)) (x_XX O K h' (x_rv x_gv r)) args s 1 6 (oA O)) (F0 m 33 ls []) := by
  have hx := C.1
  have hb := C.2.1
  intro n
  induction n with
  | zero =>
    intro ls H locs h v1 v2 hl hR hS hf
    rw [f_X11_checkPlanned_33] at hf
    cases hf
  | succ n ih =>
    intro ls H locs h v1 v2 hl hR hS hf
    rw [f_X11_checkPlanned_33] at hf
    refine lv_iload_n hx hb dX11_checkPlanned_33 rfl (lv_at hl 2 rfl) ?_
    refine lv_aload_n hx hb dX11_checkPlanned_34 rfl (lv_at hl 0 rfl) ?_
    refine gf_11_1 C hR (x_k hR 0 rfl) tw_496 dX11_checkPlanned_35 ?_
    refine gf_7_4 C hR (x_k hR 9 rfl) tw_299 dX11_checkPlanned_38 ?_
    refine lv_icmp_ge (tgt := 85) hx hb dX11_checkPlanned_41 rfl (fun hc => ?_) (fun hc => ?_)
    · have hf := x_ip hc hf
      cases hf
      exact xx_vret C hR hS (Nat.le_of_ble_eq_true rfl) (Nat.le_of_ble_eq_true rfl) dX11_checkPlanned_85
    · have hf := x_in hc hf
      refine lv_iload_n hx hb dX11_checkPlanned_44 rfl (lv_at hl 1 rfl) ?_
      refine lv_iload_n hx hb dX11_checkPlanned_45 rfl (lv_at hl 2 rfl) ?_
      refine lv_ishr hx hb dX11_checkPlanned_46 ?_
      refine lv_iconst (v := 1) hx hb dX11_checkPlanned_47 rfl ?_
      refine lv_iand hx hb dX11_checkPlanned_48 ?_
      refine lv_iconst (v := 1) hx hb dX11_checkPlanned_49 rfl ?_
      refine lv_icmp_ne (tgt := 79) hx hb dX11_checkPlanned_50 rfl (fun hc => ?_) (fun hc => ?_)
      · have hf := x_in hc hf
        exact B_X11_checkPlanned_79  C ih hst  ls _ _ h _ _  (lv_sub hl [0, 1, 2] rfl) hR hS hf
      · have hf := x_ip hc hf
        refine lv_aload_n hx hb dX11_checkPlanned_53 rfl (lv_at hl 0 rfl) ?_
        refine gf_11_1 C hR (x_k hR 0 rfl) tw_496 dX11_checkPlanned_54 ?_
        refine gf_7_5 C hR (x_k hR 9 rfl) tw_305 dX11_checkPlanned_57 ?_
        refine lv_iload_n hx hb dX11_checkPlanned_60 rfl (lv_at hl 2 rfl) ?_
        obtain ⟨g1, hf⟩ := x_gd hf
        refine x_paald C hR (x_k1 (x_k hR 13 rfl)) (x_k2 (x_k hR 13 rfl) g1) dX11_checkPlanned_61 ?_
        refine gf_2_3 C hR (x_kP hR (x_k hR 13 rfl) g1) tw_261 dX11_checkPlanned_62 ?_
        refine lv_if_eq (tgt := 79) hx hb dX11_checkPlanned_65 rfl (fun hc => ?_) (fun hc => ?_)
        · have hf := x_ip hc hf
          exact B_X11_checkPlanned_79  C ih hst  ls _ _ h _ _  (lv_sub hl [0, 1, 2] rfl) hR hS hf
        · have hf := x_in hc hf
          cases hf
          exact x_thrW tf_1 C hR hS hst hl.1 (xs_42 C) dX11_checkPlanned_68 dX11_checkPlanned_71 dX11_checkPlanned_72 dX11_checkPlanned_75 dX11_checkPlanned_78 (Nat.le_of_ble_eq_true rfl) (by decide) (Nat.le_of_ble_eq_true rfl) (Nat.le_of_ble_eq_true rfl) (Nat.le_of_ble_eq_true rfl) (Nat.le_of_ble_eq_true rfl)
set_option maxRecDepth 20000 in
theorem S_X11_checkPlanned {l : Launch} {O : XO} {K : XK} {h : XH} {v1 : Int32}  {r : Nat ⊕ Unit} {h' : XH} (hst : l.stackTraces = false) (hf : f_X11_checkPlanned (oX O) h v1 = some (r, h')) : x_MX l O K yX11_checkPlanned cX11_checkPlanned 3 none 6 90 1 6 h [.ref (oX O), .int v1] (x_rv x_gv r) h' := by
  refine x_enterX (by decide) (Nat.le_of_ble_eq_true rfl) (fun p e s m args below meth c C hR ls hl => ?_)
  have hS : va_S (oA O) s.heap s.heap [] := va_S.rf
  have hx := C.1
  have hb := C.2.1
  have hl : lv_has ls 3 [(0, .ref (oX O)), (1, .int v1)] := hl
  rw [f_X11_checkPlanned] at hf
  refine lv_iload_n hx hb dX11_checkPlanned_0 rfl (lv_at hl 1 rfl) ?_
  refine lv_aload_n hx hb dX11_checkPlanned_1 rfl (lv_at hl 0 rfl) ?_
  refine gf_11_1 C hR (x_k hR 0 rfl) tw_496 dX11_checkPlanned_2 ?_
  refine gf_7_4 C hR (x_k hR 9 rfl) tw_299 dX11_checkPlanned_5 ?_
  refine lv_ishr hx hb dX11_checkPlanned_8 ?_
  refine lv_if_ne (tgt := 20) hx hb dX11_checkPlanned_9 rfl (fun hc => ?_) (fun hc => ?_)
  · have hf := x_in hc hf
    exact B_X11_checkPlanned_20  C  hst  ls _ _ h  (lv_sub hl [] rfl) hR hS hf
  · have hf := x_ip hc hf
    refine lv_iload_n hx hb dX11_checkPlanned_12 rfl (lv_at hl 1 rfl) ?_
    refine x_cSi1 C hR hS (S_J6_bitCount_0f7a4  rfl) mf_J6_bitCount_0f7a4 tw_1380 (Nat.le_of_ble_eq_true rfl) (Nat.le_of_ble_eq_true rfl) hl.1 (Nat.le_of_ble_eq_true rfl) dX11_checkPlanned_13 ⟨Nat.le_of_ble_eq_true rfl, Nat.le_of_ble_eq_true rfl⟩ (fun H locs hR hS => ?_)
    refine lv_iconst (v := 5) hx hb dX11_checkPlanned_16 rfl ?_
    refine lv_icmp_le (tgt := 31) hx hb dX11_checkPlanned_17 rfl (fun hc => ?_) (fun hc => ?_)
    · have hf := x_ip hc hf
      refine lv_iconst (v := 0) hx hb dX11_checkPlanned_31 rfl ?_
      refine lv_istore_n (lv' := [(2, _), (0, _), (1, _)]) hx hb dX11_checkPlanned_32 rfl hl (Nat.le_of_ble_eq_true rfl) rfl (fun ls hl => ?_)
      exact B_X11_checkPlanned_33  C  hst x_FU ls _ _ h _ _  (lv_sub hl [1, 2, 0] rfl) hR hS hf
    · have hf := x_in hc hf
      exact B_X11_checkPlanned_20  C  hst  ls _ _ h  (lv_sub hl [] rfl) hR hS hf
def f_X11_isStep (h : XH) (v0 : Int32) : Int32 := (if v0 < 1 then 0 else (if 52 ≤ v0 then 0 else (if (x_rem v0 2) = 0 then 0 else (if (x_rem v0 13) = 0 then 0 else 1))))
set_option maxRecDepth 20000 in
theorem S_X11_isStep {l : Launch} {O : XO} {K : XK} {h : XH} {v0 : Int32}  {r : Int32}  (hf : f_X11_isStep h v0 = r) : x_M l O K yX11_isStep cX11_isStep 1 (some .boolean) 0 0 h [.int v0] (some (.int r)) h := by
  refine x_enter (by decide) (Nat.le_of_ble_eq_true rfl) (fun p e s m args below meth c C hR ls hl => ?_)
  have hS : va_S (oA O) s.heap s.heap [] := va_S.rf
  have hx := C.1
  have hb := C.2.1
  have hl : lv_has ls 1 [(0, .int v0)] := hl
  rw [f_X11_isStep] at hf
  refine lv_iload_n hx hb dX11_isStep_0 rfl (lv_at hl 0 rfl) ?_
  refine lv_iconst (v := 1) hx hb dX11_isStep_1 rfl ?_
  have kM1 : ∀ (ls : Array Slot) (H : Heap) (locs : List Loc), lv_has ls 1 [] → x_R O K h H → va_S (oA O) s.heap H locs → W p l e (x_rm 0 0) s m args below meth c H locs 0 0 (MQ below (x_Qc O K h (some (.int r))) args s 0 0 (oA O)) (F0 m 29 ls [.int (if v0 < 1 then 0 else (if 52 ≤ v0 then 0 else (if (x_rem v0 2) = 0 then 0 else (if (x_rem v0 13) = 0 then 0 else 1))))]) := by
    intro ls H locs hl hR hS
    cases hf
    exact x_zret C hR hS (by (repeat' split) <;> first | exact Or.inl rfl | exact Or.inr rfl) dX11_isStep_29
  refine lv_icmp_lt (tgt := 28) hx hb dX11_isStep_2 rfl (fun hc => ?_) (fun hc => ?_)
  · try simp only [if_pos hc] at kM1
    refine lv_iconst (v := 0) hx hb dX11_isStep_28 rfl ?_
    exact kM1 ls _ _ (lv_sub hl [] rfl) hR hS
  · try simp only [if_neg hc] at kM1
    refine lv_iload_n hx hb dX11_isStep_5 rfl (lv_at hl 0 rfl) ?_
    refine lv_bipush (v := 52) hx hb dX11_isStep_6 rfl ?_
    refine lv_icmp_ge (tgt := 28) hx hb dX11_isStep_8 rfl (fun hc => ?_) (fun hc => ?_)
    · try simp only [if_pos hc] at kM1
      refine lv_iconst (v := 0) hx hb dX11_isStep_28 rfl ?_
      exact kM1 ls _ _ (lv_sub hl [] rfl) hR hS
    · try simp only [if_neg hc] at kM1
      refine lv_iload_n hx hb dX11_isStep_11 rfl (lv_at hl 0 rfl) ?_
      refine lv_iconst (v := 2) hx hb dX11_isStep_12 rfl ?_
      refine lv_irem hx hb dX11_isStep_13 (by decide) ?_
      refine lv_if_eq (tgt := 28) hx hb dX11_isStep_14 rfl (fun hc => ?_) (fun hc => ?_)
      · try simp only [if_pos hc] at kM1
        refine lv_iconst (v := 0) hx hb dX11_isStep_28 rfl ?_
        exact kM1 ls _ _ (lv_sub hl [] rfl) hR hS
      · try simp only [if_neg hc] at kM1
        refine lv_iload_n hx hb dX11_isStep_17 rfl (lv_at hl 0 rfl) ?_
        refine lv_bipush (v := 13) hx hb dX11_isStep_18 rfl ?_
        refine lv_irem hx hb dX11_isStep_20 (by decide) ?_
        refine lv_if_eq (tgt := 28) hx hb dX11_isStep_21 rfl (fun hc => ?_) (fun hc => ?_)
        · try simp only [if_pos hc] at kM1
          refine lv_iconst (v := 0) hx hb dX11_isStep_28 rfl ?_
          exact kM1 ls _ _ (lv_sub hl [] rfl) hR hS
        · try simp only [if_neg hc] at kM1
          refine lv_iconst (v := 1) hx hb dX11_isStep_24 rfl ?_
          refine lv_goto (tgt := 29) hx hb dX11_isStep_25 rfl ?_
          exact kM1 ls _ _ (lv_sub hl [] rfl) hR hS
def f_X11_nextSeed (h : XH) (v0 : Int32) : Int32 := ((1103515245 * v0) + 12345)
set_option maxRecDepth 20000 in
theorem S_X11_nextSeed {l : Launch} {O : XO} {K : XK} {h : XH} {v0 : Int32}  {r : Int32}  (hf : f_X11_nextSeed h v0 = r) : x_M l O K yX11_nextSeed cX11_nextSeed 1 (some .int) 0 0 h [.int v0] (some (.int r)) h := by
  refine x_enter (by decide) (Nat.le_of_ble_eq_true rfl) (fun p e s m args below meth c C hR ls hl => ?_)
  have hS : va_S (oA O) s.heap s.heap [] := va_S.rf
  have hx := C.1
  have hb := C.2.1
  have hl : lv_has ls 1 [(0, .int v0)] := hl
  rw [f_X11_nextSeed] at hf
  refine lv_ldcw hx hb C.2.2.2.1 (C.2.2.2.2.1 _ tw_1213) dX11_nextSeed_0 ?_
  refine lv_iload_n hx hb dX11_nextSeed_3 rfl (lv_at hl 0 rfl) ?_
  refine lv_imul hx hb dX11_nextSeed_4 ?_
  refine lv_sipush (v := 12345) hx hb dX11_nextSeed_5 rfl ?_
  refine lv_iadd hx hb dX11_nextSeed_8 ?_
  cases hf
  exact x_iret C hR hS dX11_nextSeed_9
def f_X11_drawOf (h : XH) (v0 : Int32) : Int32 := ((x_ushr v0 16) &&& 32767)
set_option maxRecDepth 20000 in
theorem S_X11_drawOf {l : Launch} {O : XO} {K : XK} {h : XH} {v0 : Int32}  {r : Int32}  (hf : f_X11_drawOf h v0 = r) : x_M l O K yX11_drawOf cX11_drawOf 1 (some .int) 0 0 h [.int v0] (some (.int r)) h := by
  refine x_enter (by decide) (Nat.le_of_ble_eq_true rfl) (fun p e s m args below meth c C hR ls hl => ?_)
  have hS : va_S (oA O) s.heap s.heap [] := va_S.rf
  have hx := C.1
  have hb := C.2.1
  have hl : lv_has ls 1 [(0, .int v0)] := hl
  rw [f_X11_drawOf] at hf
  refine lv_iload_n hx hb dX11_drawOf_0 rfl (lv_at hl 0 rfl) ?_
  refine lv_bipush (v := 16) hx hb dX11_drawOf_1 rfl ?_
  refine lv_iushr hx hb dX11_drawOf_3 rfl ?_
  refine lv_sipush (v := 32767) hx hb dX11_drawOf_4 rfl ?_
  refine lv_iand hx hb dX11_drawOf_7 ?_
  cases hf
  exact x_iret C hR hS dX11_drawOf_8
def f_X11_commonPart_66 (h : XH) (v4 : Int64) : Option Int64 := some (if 0 ≤ (lg_cmp v4 1) then v4 else 1)
def f_X11_commonPart_31 (h : XH) : Nat → Int64 → Int64 → Int32 → Option Int64
  | 0, _, _, _ => none
  | n + 1, v4, v6, v8 => if 100 ≤ v8 then f_X11_commonPart_66 h v4 else if (lg_cmp v6 0) = 0 then f_X11_commonPart_66 h v4 else if v6 = 0 then none else f_X11_commonPart_31 h n v6 (x_lrem v4 v6) (v8 + 1)
def f_X11_commonPart (h : XH) (v0 : Int64) (v2 : Int64) : Option Int64 := x_let ((if 0 ≤ (lg_cmp v0 0) then v0 else (-v0)) : Int64) (fun t2 => x_let ((if 0 ≤ (lg_cmp v2 0) then v2 else (-v2)) : Int64) (fun t4 => f_X11_commonPart_31 h x_FU t2 t4 0))
set_option maxRecDepth 20000 in
theorem B_X11_commonPart_66 {p : Program} {l : Launch} {e : Env} {s : State} {m : MethodId} {args : Array Value} {below : List Frame} {meth : Method} {c : Code} {O : XO} {K : XK} {h : XH} {r : Int64}   (C : x_C p s m args meth c O cX11_commonPart 11 RX11 (some .long))   (ls : Array Slot) (H : Heap) (locs : List Loc) (v4 : Int64) (hl : lv_has ls 11 [(4, .long v4)]) (hR : x_R O K h H) (hS : va_S (oA O) s.heap H locs) (hf : f_X11_commonPart_66 h v4 = some r) : W p l e (x_rm 0 0) s m args below meth c H locs 0 0 (MQ below (x_Qc O K h (some (.long r))) args s 0 0 (oA O)) (F0 m 66 ls []) := by
  have hx := C.1
  have hb := C.2.1
  rw [f_X11_commonPart_66] at hf
  refine lv_lload hx hb dX11_commonPart_66 (lv_at hl 0 rfl) ?_
  refine lv_lconst (v := 1) hx hb dX11_commonPart_68 rfl ?_
  refine W.lcmp hx hb dX11_commonPart_69 ?_
  have kM5 : ∀ (ls : Array Slot) (H : Heap) (locs : List Loc), lv_has ls 11 [] → x_R O K h H → va_S (oA O) s.heap H locs → W p l e (x_rm 0 0) s m args below meth c H locs 0 0 (MQ below (x_Qc O K h (some (.long r))) args s 0 0 (oA O)) (F0 m 79 ls [.long (if 0 ≤ (lg_cmp v4 1) then v4 else 1)]) := by
    intro ls H locs hl hR hS
    cases hf
    exact x_lret C hR hS dX11_commonPart_79
  refine lv_if_ge (tgt := 77) hx hb dX11_commonPart_70 rfl (fun hc => ?_) (fun hc => ?_)
  · try simp only [if_pos hc] at kM5
    refine lv_lload hx hb dX11_commonPart_77 (lv_at hl 0 rfl) ?_
    exact kM5 ls _ _ (lv_sub hl [] rfl) hR hS
  · try simp only [if_neg hc] at kM5
    refine lv_lconst (v := 1) hx hb dX11_commonPart_73 rfl ?_
    refine lv_goto (tgt := 79) hx hb dX11_commonPart_74 rfl ?_
    exact kM5 ls _ _ (lv_sub hl [] rfl) hR hS
set_option maxRecDepth 20000 in
theorem B_X11_commonPart_31 {p : Program} {l : Launch} {e : Env} {s : State} {m : MethodId} {args : Array Value} {below : List Frame} {meth : Method} {c : Code} {O : XO} {K : XK} {h : XH} {r : Int64}   (C : x_C p s m args meth c O cX11_commonPart 11 RX11 (some .long))   : ∀ (n : Nat) (ls : Array Slot) (H : Heap) (locs : List Loc) (v4 : Int64) (v6 : Int64) (v8 : Int32) (hl : lv_has ls 11 [(4, .long v4), (6, .long v6), (8, .int v8)]) (hR : x_R O K h H) (hS : va_S (oA O) s.heap H locs) (hf : f_X11_commonPart_31 h n v4 v6 v8 = some r), W p l e (x_rm 0 0) s m args below meth c H locs 0 0 (MQ below (x_Qc O K h (some (.long r))) args s 0 0 (oA O)) (F0 m 31 ls []) := by
  have hx := C.1
  have hb := C.2.1
  intro n
  induction n with
  | zero =>
    intro ls H locs v4 v6 v8 hl hR hS hf
    rw [f_X11_commonPart_31] at hf
    cases hf
  | succ n ih =>
    intro ls H locs v4 v6 v8 hl hR hS hf
    rw [f_X11_commonPart_31] at hf
    refine lv_iload hx hb dX11_commonPart_31 (lv_at hl 2 rfl) ?_
    refine lv_bipush (v := 100) hx hb dX11_commonPart_33 rfl ?_
    refine lv_icmp_ge (tgt := 66) hx hb dX11_commonPart_35 rfl (fun hc => ?_) (fun hc => ?_)
    · have hf := x_ip hc hf
      exact B_X11_commonPart_66  C   ls _ _ _  (lv_sub hl [0] rfl) hR hS hf
    · have hf := x_in hc hf
      refine lv_lload hx hb dX11_commonPart_38 (lv_at hl 1 rfl) ?_
      refine lv_lconst (v := 0) hx hb dX11_commonPart_40 rfl ?_
      refine W.lcmp hx hb dX11_commonPart_41 ?_
      refine lv_if_eq (tgt := 66) hx hb dX11_commonPart_42 rfl (fun hc => ?_) (fun hc => ?_)
      · have hf := x_ip hc hf
        exact B_X11_commonPart_66  C   ls _ _ _  (lv_sub hl [0] rfl) hR hS hf
      · have hf := x_in hc hf
        refine lv_lload hx hb dX11_commonPart_45 (lv_at hl 0 rfl) ?_
        refine lv_lload hx hb dX11_commonPart_47 (lv_at hl 1 rfl) ?_
        obtain ⟨g6, hf⟩ := x_gn hf
        refine lv_lrem hx hb dX11_commonPart_49 g6 ?_
        refine lv_lstore (lv' := [(9, _), (4, _), (6, _), (8, _)]) hx hb dX11_commonPart_50 hl (Nat.le_of_ble_eq_true rfl) rfl (fun ls hl => ?_)
        refine lv_lload hx hb dX11_commonPart_52 (lv_at hl 2 rfl) ?_
        refine lv_lstore (lv' := [(4, _), (9, _), (6, _), (8, _)]) hx hb dX11_commonPart_54 hl (Nat.le_of_ble_eq_true rfl) rfl (fun ls hl => ?_)
        refine lv_lload hx hb dX11_commonPart_56 (lv_at hl 1 rfl) ?_
        refine lv_lstore (lv' := [(6, _), (4, _), (9, _), (8, _)]) hx hb dX11_commonPart_58 hl (Nat.le_of_ble_eq_true rfl) rfl (fun ls hl => ?_)
        refine lv_iinc (k := 3) (v := _ + 1) (lv' := [(8, _), (6, _), (4, _), (9, _)]) hx hb dX11_commonPart_60 hl rfl (x_inc 1 1 rfl _) (Nat.le_of_ble_eq_true rfl) rfl (fun ls hl => ?_)
        refine lv_goto (tgt := 31) hx hb dX11_commonPart_63 rfl ?_
        exact ih ls _ _ _ _ _  (lv_sub hl [2, 1, 0] rfl) hR hS hf
set_option maxRecDepth 20000 in
theorem S_X11_commonPart {l : Launch} {O : XO} {K : XK} {h : XH} {v0 : Int64} {v2 : Int64}  {r : Int64}  (hf : f_X11_commonPart h v0 v2 = some r) : x_M l O K yX11_commonPart cX11_commonPart 11 (some .long) 0 0 h [.long v0, .long v2] (some (.long r)) h := by
  refine x_enter (by decide) (Nat.le_of_ble_eq_true rfl) (fun p e s m args below meth c C hR ls hl => ?_)
  have hS : va_S (oA O) s.heap s.heap [] := va_S.rf
  have hx := C.1
  have hb := C.2.1
  have hl : lv_has ls 11 [(0, .long v0), (2, .long v2)] := hl
  rw [f_X11_commonPart] at hf
  refine lv_lload_n hx hb dX11_commonPart_0 rfl (lv_at hl 0 rfl) ?_
  refine lv_lconst (v := 0) hx hb dX11_commonPart_1 rfl ?_
  refine W.lcmp hx hb dX11_commonPart_2 ?_
  have kM1 : ∀ (ls : Array Slot) (H : Heap) (locs : List Loc), lv_has ls 11 [(2, .long v2)] → x_R O K h H → va_S (oA O) s.heap H locs → W p l e (x_rm 0 0) s m args below meth c H locs 0 0 (MQ below (x_Qc O K h (some (.long r))) args s 0 0 (oA O)) (F0 m 12 ls [.long (if 0 ≤ (lg_cmp v0 0) then v0 else (-v0))]) := by
    intro ls H locs hl hR hS
    obtain ⟨t2, et2, hf⟩ := x_lt hf
    refine x_nml et2 ?_
    refine lv_lstore (lv' := [(4, _), (2, _)]) hx hb dX11_commonPart_12 hl (Nat.le_of_ble_eq_true rfl) rfl (fun ls hl => ?_)
    refine lv_lload_n hx hb dX11_commonPart_14 rfl (lv_at hl 1 rfl) ?_
    refine lv_lconst (v := 0) hx hb dX11_commonPart_15 rfl ?_
    refine W.lcmp hx hb dX11_commonPart_16 ?_
    have kM3 : ∀ (ls : Array Slot) (H : Heap) (locs : List Loc), lv_has ls 11 [(4, .long t2)] → x_R O K h H → va_S (oA O) s.heap H locs → W p l e (x_rm 0 0) s m args below meth c H locs 0 0 (MQ below (x_Qc O K h (some (.long r))) args s 0 0 (oA O)) (F0 m 26 ls [.long (if 0 ≤ (lg_cmp v2 0) then v2 else (-v2))]) := by
      intro ls H locs hl hR hS
      obtain ⟨t4, et4, hf⟩ := x_lt hf
      refine x_nml et4 ?_
      refine lv_lstore (lv' := [(6, _), (4, _)]) hx hb dX11_commonPart_26 hl (Nat.le_of_ble_eq_true rfl) rfl (fun ls hl => ?_)
      refine lv_iconst (v := 0) hx hb dX11_commonPart_28 rfl ?_
      refine lv_istore (lv' := [(8, _), (6, _), (4, _)]) hx hb dX11_commonPart_29 hl (Nat.le_of_ble_eq_true rfl) rfl (fun ls hl => ?_)
      exact B_X11_commonPart_31  C  x_FU ls _ _ _ _ _  (lv_sub hl [2, 1, 0] rfl) hR hS hf
    refine lv_if_ge (tgt := 25) hx hb dX11_commonPart_17 rfl (fun hc => ?_) (fun hc => ?_)
    · try simp only [if_pos hc] at kM3
      refine lv_lload_n hx hb dX11_commonPart_25 rfl (lv_at hl 1 rfl) ?_
      exact kM3 ls _ _ (lv_sub hl [0] rfl) hR hS
    · try simp only [if_neg hc] at kM3
      refine lv_lload_n hx hb dX11_commonPart_20 rfl (lv_at hl 1 rfl) ?_
      refine lv_lneg hx hb dX11_commonPart_21 ?_
      refine lv_goto (tgt := 26) hx hb dX11_commonPart_22 rfl ?_
      exact kM3 ls _ _ (lv_sub hl [0] rfl) hR hS
  refine lv_if_ge (tgt := 11) hx hb dX11_commonPart_3 rfl (fun hc => ?_) (fun hc => ?_)
  · try simp only [if_pos hc] at kM1
    refine lv_lload_n hx hb dX11_commonPart_11 rfl (lv_at hl 0 rfl) ?_
    exact kM1 ls _ _ (lv_sub hl [1] rfl) hR hS
  · try simp only [if_neg hc] at kM1
    refine lv_lload_n hx hb dX11_commonPart_6 rfl (lv_at hl 0 rfl) ?_
    refine lv_lneg hx hb dX11_commonPart_7 ?_
    refine lv_goto (tgt := 12) hx hb dX11_commonPart_8 rfl ?_
    exact kM1 ls _ _ (lv_sub hl [1] rfl) hR hS
def f_X11_waysToChoose_5 (h : XH) : Nat → Int32 → Int32 → Int64 → Int32 → Option Int64
  | 0, _, _, _, _ => none
  | n + 1, v0, v1, v2, v4 => if v1 < v4 then some v2 else if v4.toInt64 = 0 then none else x_let (((v2 * ((v0 - v1) + v4).toInt64) / v4.toInt64) : Int64) (fun t2 => f_X11_waysToChoose_5 h n v0 v1 t2 (v4 + 1))
def f_X11_waysToChoose (h : XH) (v0 : Int32) (v1 : Int32) : Option Int64 := f_X11_waysToChoose_5 h x_FU v0 v1 1 1
set_option maxRecDepth 20000 in
theorem B_X11_waysToChoose_5 {p : Program} {l : Launch} {e : Env} {s : State} {m : MethodId} {args : Array Value} {below : List Frame} {meth : Method} {c : Code} {O : XO} {K : XK} {h : XH} {r : Int64}   (C : x_C p s m args meth c O cX11_waysToChoose 5 RX11 (some .long))   : ∀ (n : Nat) (ls : Array Slot) (H : Heap) (locs : List Loc) (v0 : Int32) (v1 : Int32) (v2 : Int64) (v4 : Int32) (hl : lv_has ls 5 [(0, .int v0), (1, .int v1), (2, .long v2), (4, .int v4)]) (hR : x_R O K h H) (hS : va_S (oA O) s.heap H locs) (hf : f_X11_waysToChoose_5 h n v0 v1 v2 v4 = some r), W p l e (x_rm 0 0) s m args below meth c H locs 0 0 (MQ below (x_Qc O K h (some (.long r))) args s 0 0 (oA O)) (F0 m 5 ls []) := by
  have hx := C.1
  have hb := C.2.1
  intro n
  induction n with
  | zero =>
    intro ls H locs v0 v1 v2 v4 hl hR hS hf
    rw [f_X11_waysToChoose_5] at hf
    cases hf
  | succ n ih =>
    intro ls H locs v0 v1 v2 v4 hl hR hS hf
    rw [f_X11_waysToChoose_5] at hf
    refine lv_iload hx hb dX11_waysToChoose_5 (lv_at hl 3 rfl) ?_
    refine lv_iload_n hx hb dX11_waysToChoose_7 rfl (lv_at hl 1 rfl) ?_
    refine lv_icmp_gt (tgt := 31) hx hb dX11_waysToChoose_8 rfl (fun hc => ?_) (fun hc => ?_)
    · have hf := x_ip hc hf
      refine lv_lload_n hx hb dX11_waysToChoose_31 rfl (lv_at hl 2 rfl) ?_
      cases hf
      exact x_lret C hR hS dX11_waysToChoose_32
    · have hf := x_in hc hf
      refine lv_lload_n hx hb dX11_waysToChoose_11 rfl (lv_at hl 2 rfl) ?_
      refine lv_iload_n hx hb dX11_waysToChoose_12 rfl (lv_at hl 0 rfl) ?_
      refine lv_iload_n hx hb dX11_waysToChoose_13 rfl (lv_at hl 1 rfl) ?_
      refine lv_isub hx hb dX11_waysToChoose_14 ?_
      refine lv_iload hx hb dX11_waysToChoose_15 (lv_at hl 3 rfl) ?_
      refine lv_iadd hx hb dX11_waysToChoose_17 ?_
      refine lv_i2l hx hb dX11_waysToChoose_18 rfl ?_
      refine lv_lmul hx hb dX11_waysToChoose_19 ?_
      refine lv_iload hx hb dX11_waysToChoose_20 (lv_at hl 3 rfl) ?_
      refine lv_i2l hx hb dX11_waysToChoose_22 rfl ?_
      obtain ⟨g1, hf⟩ := x_gn hf
      refine lv_ldiv hx hb dX11_waysToChoose_23 g1 ?_
      obtain ⟨t2, et2, hf⟩ := x_lt hf
      refine x_nml et2 ?_
      refine lv_lstore_n (lv' := [(2, _), (0, _), (1, _), (4, _)]) hx hb dX11_waysToChoose_24 rfl hl (Nat.le_of_ble_eq_true rfl) rfl (fun ls hl => ?_)
      refine lv_iinc (k := 3) (v := _ + 1) (lv' := [(4, _), (2, _), (0, _), (1, _)]) hx hb dX11_waysToChoose_25 hl rfl (x_inc 1 1 rfl _) (Nat.le_of_ble_eq_true rfl) rfl (fun ls hl => ?_)
      refine lv_goto (tgt := 5) hx hb dX11_waysToChoose_28 rfl ?_
      exact ih ls _ _ _ _ _ _  (lv_sub hl [2, 3, 1, 0] rfl) hR hS hf
set_option maxRecDepth 20000 in
theorem S_X11_waysToChoose {l : Launch} {O : XO} {K : XK} {h : XH} {v0 : Int32} {v1 : Int32}  {r : Int64}  (hf : f_X11_waysToChoose h v0 v1 = some r) : x_M l O K yX11_waysToChoose cX11_waysToChoose 5 (some .long) 0 0 h [.int v0, .int v1] (some (.long r)) h := by
  refine x_enter (by decide) (Nat.le_of_ble_eq_true rfl) (fun p e s m args below meth c C hR ls hl => ?_)
  have hS : va_S (oA O) s.heap s.heap [] := va_S.rf
  have hx := C.1
  have hb := C.2.1
  have hl : lv_has ls 5 [(0, .int v0), (1, .int v1)] := hl
  rw [f_X11_waysToChoose] at hf
  refine lv_lconst (v := 1) hx hb dX11_waysToChoose_0 rfl ?_
  refine lv_lstore_n (lv' := [(2, _), (0, _), (1, _)]) hx hb dX11_waysToChoose_1 rfl hl (Nat.le_of_ble_eq_true rfl) rfl (fun ls hl => ?_)
  refine lv_iconst (v := 1) hx hb dX11_waysToChoose_2 rfl ?_
  refine lv_istore (lv' := [(4, _), (2, _), (0, _), (1, _)]) hx hb dX11_waysToChoose_3 hl (Nat.le_of_ble_eq_true rfl) rfl (fun ls hl => ?_)
  exact B_X11_waysToChoose_5  C  x_FU ls _ _ _ _ _ _  (lv_sub hl [2, 3, 1, 0] rfl) hR hS hf
def f_X11_weekAfter (h : XH) (v0 : Int32) (v1 : Int32) (v2 : Int32) : Option Int32 := Option.bind (f_J9_floorDiv_7cf53 h (v2 * (v1 - v0)) 100) (fun v_1 => some (v0 + v_1))
set_option maxRecDepth 20000 in
theorem S_X11_weekAfter {l : Launch} {O : XO} {K : XK} {h : XH} {v0 : Int32} {v1 : Int32} {v2 : Int32}  {r : Int32}  (hf : f_X11_weekAfter h v0 v1 v2 = some r) : x_M l O K yX11_weekAfter cX11_weekAfter 3 (some .int) 1 22 h [.int v0, .int v1, .int v2] (some (.int r)) h := by
  refine x_enter (by decide) (Nat.le_of_ble_eq_true rfl) (fun p e s m args below meth c C hR ls hl => ?_)
  have hS : va_S (oA O) s.heap s.heap [] := va_S.rf
  have hx := C.1
  have hb := C.2.1
  have hl : lv_has ls 3 [(0, .int v0), (1, .int v1), (2, .int v2)] := hl
  rw [f_X11_weekAfter] at hf
  refine lv_iload_n hx hb dX11_weekAfter_0 rfl (lv_at hl 0 rfl) ?_
  refine lv_iload_n hx hb dX11_weekAfter_1 rfl (lv_at hl 2 rfl) ?_
  refine lv_iload_n hx hb dX11_weekAfter_2 rfl (lv_at hl 1 rfl) ?_
  refine lv_iload_n hx hb dX11_weekAfter_3 rfl (lv_at hl 0 rfl) ?_
  refine lv_isub hx hb dX11_weekAfter_4 ?_
  refine lv_imul hx hb dX11_weekAfter_5 ?_
  refine lv_bipush (v := 100) hx hb dX11_weekAfter_6 rfl ?_
  obtain ⟨v_1, ev_1, hf⟩ := x_bd hf
  refine x_cSi2 C hR hS (S_J9_floorDiv_7cf53  ev_1) mf_J9_floorDiv_7cf53 tw_1502 (Nat.le_of_ble_eq_true rfl) (Nat.le_of_ble_eq_true rfl) hl.1 (Nat.le_of_ble_eq_true rfl) dX11_weekAfter_8 ⟨Nat.le_refl _, Nat.le_refl _⟩ (fun H locs hR hS => ?_)
  refine lv_iadd hx hb dX11_weekAfter_11 ?_
  cases hf
  exact x_iret C hR hS dX11_weekAfter_12
def f_X11_isRate_2 (x : Nat) (h : XH) : Nat → Int32 → Int32 → Int32 → Option Int32
  | 0, _, _, _ => none
  | n + 1, v1, v2, v3 => if (h.1 (x + 9) 15) ≤ v3 then some 1 else if x_b (v3 - 1) 20 = true then Option.bind (f_X11_weekAfter h (h.1 (x + 18) (v3 - 1).toNatClampNeg) v2 v1) (fun v_2 => if x_b v3 20 = true then if (f_J9_abs_0f7a4 h (v_2 - (h.1 (x + 18) v3.toNatClampNeg))) ≤ 1 then f_X11_isRate_2 x h n v1 v2 (v3 + 1) else some 0 else none) else none
def f_X11_isRate (x : Nat) (h : XH) (v1 : Int32) (v2 : Int32) : Option Int32 := f_X11_isRate_2 x h x_FU v1 v2 1
set_option maxRecDepth 20000 in
theorem B_X11_isRate_2 {p : Program} {l : Launch} {e : Env} {s : State} {m : MethodId} {args : Array Value} {below : List Frame} {meth : Method} {c : Code} {O : XO} {K : XK} {h : XH} {r : Int32}   (C : x_C p s m args meth c O cX11_isRate 4 RX11 (some .boolean))   : ∀ (n : Nat) (ls : Array Slot) (H : Heap) (locs : List Loc) (v1 : Int32) (v2 : Int32) (v3 : Int32) (hl : lv_has ls 4 [(0, .ref (oX O)), (1, .int v1), (2, .int v2), (3, .int v3)]) (hR : x_R O K h H) (hS : va_S (oA O) s.heap H locs) (hf : f_X11_isRate_2 (oX O) h n v1 v2 v3 = some r), W p l e (x_rm 2 44) s m args below meth c H locs 0 0 (MQ below (x_Qc O K h (some (.int r))) args s 0 0 (oA O)) (F0 m 2 ls []) := by
  have hx := C.1
  have hb := C.2.1
  intro n
  induction n with
  | zero =>
    intro ls H locs v1 v2 v3 hl hR hS hf
    rw [f_X11_isRate_2] at hf
    cases hf
  | succ n ih =>
    intro ls H locs v1 v2 v3 hl hR hS hf
    rw [f_X11_isRate_2] at hf
    refine lv_iload_n hx hb dX11_isRate_2 rfl (lv_at hl 3 rfl) ?_
    refine lv_aload_n hx hb dX11_isRate_3 rfl (lv_at hl 0 rfl) ?_
    refine gf_11_1 C hR (x_k hR 0 rfl) tw_496 dX11_isRate_4 ?_
    refine gf_7_15 C hR (x_k hR 9 rfl) tw_330 dX11_isRate_7 ?_
    refine lv_icmp_ge (tgt := 54) hx hb dX11_isRate_10 rfl (fun hc => ?_) (fun hc => ?_)
    · have hf := x_ip hc hf
      refine lv_iconst (v := 1) hx hb dX11_isRate_54 rfl ?_
      cases hf
      exact x_zret C hR hS (Or.inr rfl) dX11_isRate_55
    · have hf := x_in hc hf
      refine lv_aload_n hx hb dX11_isRate_13 rfl (lv_at hl 0 rfl) ?_
      refine gf_11_1 C hR (x_k hR 0 rfl) tw_496 dX11_isRate_14 ?_
      refine gf_7_16 C hR (x_k hR 9 rfl) tw_332 dX11_isRate_17 ?_
      refine lv_iload_n hx hb dX11_isRate_20 rfl (lv_at hl 3 rfl) ?_
      refine lv_iconst (v := 1) hx hb dX11_isRate_21 rfl ?_
      refine lv_isub hx hb dX11_isRate_22 ?_
      obtain ⟨g1, hf⟩ := x_gd hf
      refine x_iald C hR (x_k1 (x_k hR 18 rfl)) (x_k2 (x_k hR 18 rfl) g1) dX11_isRate_23 ?_
      refine lv_iload_n hx hb dX11_isRate_24 rfl (lv_at hl 2 rfl) ?_
      refine lv_iload_n hx hb dX11_isRate_25 rfl (lv_at hl 1 rfl) ?_
      obtain ⟨v_2, ev_2, hf⟩ := x_bd hf
      refine x_cSi3 C hR hS (S_X11_weekAfter  ev_2) mf_X11_weekAfter tw_1499 (Nat.le_of_ble_eq_true rfl) (Nat.le_of_ble_eq_true rfl) hl.1 (Nat.le_of_ble_eq_true rfl) dX11_isRate_26 ⟨Nat.le_refl _, Nat.le_refl _⟩ (fun H locs hR hS => ?_)
      refine lv_aload_n hx hb dX11_isRate_29 rfl (lv_at hl 0 rfl) ?_
      refine gf_11_1 C hR (x_k hR 0 rfl) tw_496 dX11_isRate_30 ?_
      refine gf_7_16 C hR (x_k hR 9 rfl) tw_332 dX11_isRate_33 ?_
      refine lv_iload_n hx hb dX11_isRate_36 rfl (lv_at hl 3 rfl) ?_
      obtain ⟨g3, hf⟩ := x_gd hf
      refine x_iald C hR (x_k1 (x_k hR 18 rfl)) (x_k2 (x_k hR 18 rfl) g3) dX11_isRate_37 ?_
      refine lv_isub hx hb dX11_isRate_38 ?_
      refine x_cSi1 C hR hS (S_J9_abs_0f7a4  rfl) mf_J9_abs_0f7a4 tw_1286 (Nat.le_of_ble_eq_true rfl) (Nat.le_of_ble_eq_true rfl) hl.1 (Nat.le_of_ble_eq_true rfl) dX11_isRate_39 ⟨Nat.le_refl _, Nat.le_refl _⟩ (fun H locs hR hS => ?_)
      refine lv_iconst (v := 1) hx hb dX11_isRate_42 rfl ?_
      refine lv_icmp_le (tgt := 48) hx hb dX11_isRate_43 rfl (fun hc => ?_) (fun hc => ?_)
      · have hf := x_ip hc hf
        refine lv_iinc (k := 3) (v := _ + 1) (lv' := [(3, _), (0, _), (1, _), (2, _)]) hx hb dX11_isRate_48 hl rfl (x_inc 1 1 rfl _) (Nat.le_of_ble_eq_true rfl) rfl (fun ls hl => ?_)
        refine lv_goto (tgt := 2) hx hb dX11_isRate_51 rfl ?_
        exact ih ls _ _ _ _ _  (lv_sub hl [1, 2, 3, 0] rfl) hR hS hf
      · have hf := x_in hc hf
        refine lv_iconst (v := 0) hx hb dX11_isRate_46 rfl ?_
        cases hf
        exact x_zret C hR hS (Or.inl rfl) dX11_isRate_47
set_option maxRecDepth 20000 in
theorem S_X11_isRate {l : Launch} {O : XO} {K : XK} {h : XH} {v1 : Int32} {v2 : Int32}  {r : Int32}  (hf : f_X11_isRate (oX O) h v1 v2 = some r) : x_M l O K yX11_isRate cX11_isRate 4 (some .boolean) 2 44 h [.ref (oX O), .int v1, .int v2] (some (.int r)) h := by
  refine x_enter (by decide) (Nat.le_of_ble_eq_true rfl) (fun p e s m args below meth c C hR ls hl => ?_)
  have hS : va_S (oA O) s.heap s.heap [] := va_S.rf
  have hx := C.1
  have hb := C.2.1
  have hl : lv_has ls 4 [(0, .ref (oX O)), (1, .int v1), (2, .int v2)] := hl
  rw [f_X11_isRate] at hf
  refine lv_iconst (v := 1) hx hb dX11_isRate_0 rfl ?_
  refine lv_istore_n (lv' := [(3, _), (0, _), (1, _), (2, _)]) hx hb dX11_isRate_1 rfl hl (Nat.le_of_ble_eq_true rfl) rfl (fun ls hl => ?_)
  exact B_X11_isRate_2  C  x_FU ls _ _ _ _ _  (lv_sub hl [1, 2, 3, 0] rfl) hR hS hf
def f_X11_nextWeekEdge_83 (k33 : Int32 → Int32 → Int32 → Int32 → Int32 → Int32 → Option Int32) (x : Nat) (h : XH) (v1 : Int32) (v2 : Int32) (v4 : Int32) (v5 : Int32) (v6 : Int32) (v7 : Int32) : Option Int32 := k33 v1 v2 v4 v5 v6 (v7 + 1)
def f_X11_nextWeekEdge_33 (x : Nat) (h : XH) : Nat → Int32 → Int32 → Int32 → Int32 → Int32 → Int32 → Option Int32
  | 0, _, _, _, _, _, _ => none
  | n + 1, v1, v2, v4, v5, v6, v7 => if v4 < v7 then some v6 else Option.bind (f_X11_isRate x h v7 v1) (fun v_4 => if v_4 = 0 then f_X11_nextWeekEdge_83 (f_X11_nextWeekEdge_33 x h n) x h v1 v2 v4 v5 v6 v7 else Option.bind (f_X11_weekAfter h v5 v1 v7) (fun v_5 => x_let ((if v2 = 0 then (f_J9_max_7cf53 h v6 v_5) else (f_J9_min_7cf53 h v6 v_5)) : Int32) (fun t7 => f_X11_nextWeekEdge_83 (f_X11_nextWeekEdge_33 x h n) x h v1 v2 v4 v5 t7 v7)))
def f_X11_nextWeekEdge (x : Nat) (h : XH) (v1 : Int32) (v2 : Int32) (v3 : Int32) (v4 : Int32) : Option Int32 := if x_b ((h.1 (x + 9) 15) - 1) 20 = true then x_let ((h.1 (x + 18) ((h.1 (x + 9) 15) - 1).toNatClampNeg) : Int32) (fun t2 => Option.bind (f_X11_weekAfter h t2 v1 v3) (fun v_3 => f_X11_nextWeekEdge_33 x h x_FU v1 v2 v4 t2 v_3 (v3 + 1))) else none
set_option maxRecDepth 20000 in
theorem B_X11_nextWeekEdge_83 {p : Program} {l : Launch} {e : Env} {s : State} {m : MethodId} {args : Array Value} {below : List Frame} {meth : Method} {c : Code} {O : XO} {K : XK} {h : XH} {r : Int32}  {k33 : Int32 → Int32 → Int32 → Int32 → Int32 → Int32 → Option Int32} (C : x_C p s m args meth c O cX11_nextWeekEdge 9 RX11 (some .int)) (hk33 : ∀ (ls : Array Slot) (H : Heap) (locs : List Loc) (v1 : Int32) (v2 : Int32) (v4 : Int32) (v5 : Int32) (v6 : Int32) (v7 : Int32), lv_has ls 9 [(0, .ref (oX O)), (1, .int v1), (2, .int v2), (4, .int v4), (5, .int v5), (6, .int v6), (7, .int v7)] → x_R O K h H → va_S (oA O) s.heap H locs → k33 v1 v2 v4 v5 v6 v7 = some r → W p l e (x_rm 3 67) s m args below meth c H locs 0 0 (MQ below (x_Qc O K h (some (.int r))) args s 0 0 (oA O)) (F0 m 33 ls []))  (ls : Array Slot) (H : Heap) (locs : List Loc) (v1 : Int32) (v2 : Int32) (v4 : Int32) (v5 : Int32) (v6 : Int32) (v7 : Int32) (hl : lv_has ls 9 [(0, .ref (oX O)), (1, .int v1), (2, .int v2), (4, .int v4), (5, .int v5), (6, .int v6), (7, .int v7)]) (hR : x_R O K h H) (hS : va_S (oA O) s.heap H locs) (hf : f_X11_nextWeekEdge_83 k33 (oX O) h v1 v2 v4 v5 v6 v7 = some r) : W p l e (x_rm 3 67) s m args below meth c H locs 0 0 (MQ below (x_Qc O K h (some (.int r))) args s 0 0 (oA O)) (F0 m 83 ls []) := by
  have hx := C.1
  have hb := C.2.1
  rw [f_X11_nextWeekEdge_83] at hf
  refine lv_iinc (k := 6) (v := _ + 1) (lv' := [(7, _), (0, _), (1, _), (2, _), (4, _), (5, _), (6, _)]) hx hb dX11_nextWeekEdge_83 hl rfl (x_inc 1 1 rfl _) (Nat.le_of_ble_eq_true rfl) rfl (fun ls hl => ?_)
  refine lv_goto (tgt := 33) hx hb dX11_nextWeekEdge_86 rfl ?_
  exact hk33 ls _ _ _ _ _ _ _ _  (lv_sub hl [1, 2, 3, 4, 5, 6, 0] rfl) hR hS hf
set_option maxRecDepth 20000 in
theorem B_X11_nextWeekEdge_33 {p : Program} {l : Launch} {e : Env} {s : State} {m : MethodId} {args : Array Value} {below : List Frame} {meth : Method} {c : Code} {O : XO} {K : XK} {h : XH} {r : Int32}   (C : x_C p s m args meth c O cX11_nextWeekEdge 9 RX11 (some .int))   : ∀ (n : Nat) (ls : Array Slot) (H : Heap) (locs : List Loc) (v1 : Int32) (v2 : Int32) (v4 : Int32) (v5 : Int32) (v6 : Int32) (v7 : Int32) (hl : lv_has ls 9 [(0, .ref (oX O)), (1, .int v1), (2, .int v2), (4, .int v4), (5, .int v5), (6, .int v6), (7, .int v7)]) (hR : x_R O K h H) (hS : va_S (oA O) s.heap H locs) (hf : f_X11_nextWeekEdge_33 (oX O) h n v1 v2 v4 v5 v6 v7 = some r), W p l e (x_rm 3 67) s m args below meth c H locs 0 0 (MQ below (x_Qc O K h (some (.int r))) args s 0 0 (oA O)) (F0 m 33 ls []) := by
  have hx := C.1
  have hb := C.2.1
  intro n
  induction n with
  | zero =>
    intro ls H locs v1 v2 v4 v5 v6 v7 hl hR hS hf
    rw [f_X11_nextWeekEdge_33] at hf
    cases hf
  | succ n ih =>
    intro ls H locs v1 v2 v4 v5 v6 v7 hl hR hS hf
    rw [f_X11_nextWeekEdge_33] at hf
    refine lv_iload hx hb dX11_nextWeekEdge_33 (lv_at hl 6 rfl) ?_
    refine lv_iload hx hb dX11_nextWeekEdge_35 (lv_at hl 3 rfl) ?_
    refine lv_icmp_gt (tgt := 89) hx hb dX11_nextWeekEdge_37 rfl (fun hc => ?_) (fun hc => ?_)
    · have hf := x_ip hc hf
      refine lv_iload hx hb dX11_nextWeekEdge_89 (lv_at hl 5 rfl) ?_
      cases hf
      exact x_iret C hR hS dX11_nextWeekEdge_91
    · have hf := x_in hc hf
      refine lv_aload_n hx hb dX11_nextWeekEdge_40 rfl (lv_at hl 0 rfl) ?_
      refine lv_iload hx hb dX11_nextWeekEdge_41 (lv_at hl 6 rfl) ?_
      refine lv_iload_n hx hb dX11_nextWeekEdge_43 rfl (lv_at hl 1 rfl) ?_
      obtain ⟨v_4, ev_4, hf⟩ := x_bd hf
      refine x_cVi2 C hR hS (S_X11_isRate  ev_4) (x_k hR 0 rfl) (by decide) rfl mf_X11_isRate tw_1495 (Nat.le_of_ble_eq_true rfl) (Nat.le_of_ble_eq_true rfl) hl.1 (Nat.le_of_ble_eq_true rfl) dX11_nextWeekEdge_44 ⟨Nat.le_refl _, Nat.le_refl _⟩ (fun H locs hR hS => ?_)
      refine lv_if_eq (tgt := 83) hx hb dX11_nextWeekEdge_47 rfl (fun hc => ?_) (fun hc => ?_)
      · have hf := x_ip hc hf
        exact B_X11_nextWeekEdge_83  C ih  ls _ _ _ _ _ _ _ _  (lv_sub hl [0, 1, 2, 3, 4, 5, 6] rfl) hR hS hf
      · have hf := x_in hc hf
        refine lv_iload hx hb dX11_nextWeekEdge_50 (lv_at hl 4 rfl) ?_
        refine lv_iload_n hx hb dX11_nextWeekEdge_52 rfl (lv_at hl 1 rfl) ?_
        refine lv_iload hx hb dX11_nextWeekEdge_53 (lv_at hl 6 rfl) ?_
        obtain ⟨v_5, ev_5, hf⟩ := x_bd hf
        refine x_cSi3 C hR hS (S_X11_weekAfter  ev_5) mf_X11_weekAfter tw_1499 (Nat.le_of_ble_eq_true rfl) (Nat.le_of_ble_eq_true rfl) hl.1 (Nat.le_of_ble_eq_true rfl) dX11_nextWeekEdge_55 ⟨Nat.le_refl _, Nat.le_refl _⟩ (fun H locs hR hS => ?_)
        refine lv_istore (lv' := [(8, _), (0, _), (1, _), (2, _), (4, _), (5, _), (6, _), (7, _)]) hx hb dX11_nextWeekEdge_58 hl (Nat.le_of_ble_eq_true rfl) rfl (fun ls hl => ?_)
        refine lv_iload_n hx hb dX11_nextWeekEdge_60 rfl (lv_at hl 3 rfl) ?_
        have kM6 : ∀ (ls : Array Slot) (H : Heap) (locs : List Loc), lv_has ls 9 [(0, .ref (oX O)), (1, .int v1), (2, .int v2), (4, .int v4), (5, .int v5), (7, .int v7)] → x_R O K h H → va_S (oA O) s.heap H locs → W p l e (x_rm 3 67) s m args below meth c H locs 0 0 (MQ below (x_Qc O K h (some (.int r))) args s 0 0 (oA O)) (F0 m 81 ls [.int (if v2 = 0 then (f_J9_max_7cf53 h v6 v_5) else (f_J9_min_7cf53 h v6 v_5))]) := by
          intro ls H locs hl hR hS
          obtain ⟨t7, et7, hf⟩ := x_lt hf
          refine x_nmi et7 ?_
          refine lv_istore (lv' := [(6, _), (0, _), (1, _), (2, _), (4, _), (5, _), (7, _)]) hx hb dX11_nextWeekEdge_81 hl (Nat.le_of_ble_eq_true rfl) rfl (fun ls hl => ?_)
          exact B_X11_nextWeekEdge_83  C ih  ls _ _ _ _ _ _ _ _  (lv_sub hl [1, 2, 3, 4, 5, 0, 6] rfl) hR hS hf
        refine lv_if_eq (tgt := 74) hx hb dX11_nextWeekEdge_61 rfl (fun hc => ?_) (fun hc => ?_)
        · try simp only [if_pos hc] at kM6
          refine lv_iload hx hb dX11_nextWeekEdge_74 (lv_at hl 6 rfl) ?_
          refine lv_iload hx hb dX11_nextWeekEdge_76 (lv_at hl 0 rfl) ?_
          refine x_cSi2 C hR hS (S_J9_max_7cf53  rfl) mf_J9_max_7cf53 tw_1509 (Nat.le_of_ble_eq_true rfl) (Nat.le_of_ble_eq_true rfl) hl.1 (Nat.le_of_ble_eq_true rfl) dX11_nextWeekEdge_78 ⟨Nat.le_refl _, Nat.le_refl _⟩ (fun H locs hR hS => ?_)
          exact kM6 ls _ _ (lv_sub hl [1, 2, 3, 4, 5, 7] rfl) hR hS
        · try simp only [if_neg hc] at kM6
          refine lv_iload hx hb dX11_nextWeekEdge_64 (lv_at hl 6 rfl) ?_
          refine lv_iload hx hb dX11_nextWeekEdge_66 (lv_at hl 0 rfl) ?_
          refine x_cSi2 C hR hS (S_J9_min_7cf53  rfl) mf_J9_min_7cf53 tw_1401 (Nat.le_of_ble_eq_true rfl) (Nat.le_of_ble_eq_true rfl) hl.1 (Nat.le_of_ble_eq_true rfl) dX11_nextWeekEdge_68 ⟨Nat.le_refl _, Nat.le_refl _⟩ (fun H locs hR hS => ?_)
          refine lv_goto (tgt := 81) hx hb dX11_nextWeekEdge_71 rfl ?_
          exact kM6 ls _ _ (lv_sub hl [1, 2, 3, 4, 5, 7] rfl) hR hS
set_option maxRecDepth 20000 in
theorem S_X11_nextWeekEdge {l : Launch} {O : XO} {K : XK} {h : XH} {v1 : Int32} {v2 : Int32} {v3 : Int32} {v4 : Int32}  {r : Int32}  (hf : f_X11_nextWeekEdge (oX O) h v1 v2 v3 v4 = some r) : x_M l O K yX11_nextWeekEdge cX11_nextWeekEdge 9 (some .int) 3 67 h [.ref (oX O), .int v1, .int v2, .int v3, .int v4] (some (.int r)) h := by
  refine x_enter (by decide) (Nat.le_of_ble_eq_true rfl) (fun p e s m args below meth c C hR ls hl => ?_)
  have hS : va_S (oA O) s.heap s.heap [] := va_S.rf
  have hx := C.1
  have hb := C.2.1
  have hl : lv_has ls 9 [(0, .ref (oX O)), (1, .int v1), (2, .int v2), (3, .int v3), (4, .int v4)] := hl
  rw [f_X11_nextWeekEdge] at hf
  refine lv_aload_n hx hb dX11_nextWeekEdge_0 rfl (lv_at hl 0 rfl) ?_
  refine gf_11_1 C hR (x_k hR 0 rfl) tw_496 dX11_nextWeekEdge_1 ?_
  refine gf_7_16 C hR (x_k hR 9 rfl) tw_332 dX11_nextWeekEdge_4 ?_
  refine lv_aload_n hx hb dX11_nextWeekEdge_7 rfl (lv_at hl 0 rfl) ?_
  refine gf_11_1 C hR (x_k hR 0 rfl) tw_496 dX11_nextWeekEdge_8 ?_
  refine gf_7_15 C hR (x_k hR 9 rfl) tw_330 dX11_nextWeekEdge_11 ?_
  refine lv_iconst (v := 1) hx hb dX11_nextWeekEdge_14 rfl ?_
  refine lv_isub hx hb dX11_nextWeekEdge_15 ?_
  obtain ⟨g1, hf⟩ := x_gd hf
  refine x_iald C hR (x_k1 (x_k hR 18 rfl)) (x_k2 (x_k hR 18 rfl) g1) dX11_nextWeekEdge_16 ?_
  obtain ⟨t2, et2, hf⟩ := x_lt hf
  refine x_nmi et2 ?_
  refine lv_istore (lv' := [(5, _), (0, _), (1, _), (2, _), (3, _), (4, _)]) hx hb dX11_nextWeekEdge_17 hl (Nat.le_of_ble_eq_true rfl) rfl (fun ls hl => ?_)
  refine lv_iload hx hb dX11_nextWeekEdge_19 (lv_at hl 0 rfl) ?_
  refine lv_iload_n hx hb dX11_nextWeekEdge_21 rfl (lv_at hl 2 rfl) ?_
  refine lv_iload_n hx hb dX11_nextWeekEdge_22 rfl (lv_at hl 4 rfl) ?_
  obtain ⟨v_3, ev_3, hf⟩ := x_bd hf
  refine x_cSi3 C hR hS (S_X11_weekAfter  ev_3) mf_X11_weekAfter tw_1499 (Nat.le_of_ble_eq_true rfl) (Nat.le_of_ble_eq_true rfl) hl.1 (Nat.le_of_ble_eq_true rfl) dX11_nextWeekEdge_23 ⟨Nat.le_refl _, Nat.le_refl _⟩ (fun H locs hR hS => ?_)
  refine lv_istore (lv' := [(6, _), (5, _), (0, _), (1, _), (2, _), (3, _), (4, _)]) hx hb dX11_nextWeekEdge_26 hl (Nat.le_of_ble_eq_true rfl) rfl (fun ls hl => ?_)
  refine lv_iload_n hx hb dX11_nextWeekEdge_28 rfl (lv_at hl 5 rfl) ?_
  refine lv_iconst (v := 1) hx hb dX11_nextWeekEdge_29 rfl ?_
  refine lv_iadd hx hb dX11_nextWeekEdge_30 ?_
  refine lv_istore (lv' := [(7, _), (6, _), (5, _), (0, _), (1, _), (2, _), (3, _), (4, _)]) hx hb dX11_nextWeekEdge_31 hl (Nat.le_of_ble_eq_true rfl) rfl (fun ls hl => ?_)
  exact B_X11_nextWeekEdge_33  C  x_FU ls _ _ _ _ _ _ _ _  (lv_sub hl [3, 4, 5, 7, 2, 1, 0] rfl) hR hS hf
def f_X11_look_16 (x : Nat) (h : XH) : Option ((Nat ⊕ Unit) × XH) := some (.inl 1, h)
def f_X11_look (x : Nat) (h : XH) (v1 : Int32) (v2 : Int32) (v3 : Int32) : Option ((Nat ⊕ Unit) × XH) := x_xb (f_X11_checkDoor x h v1 v2) (fun _ h1 => if v3 < 0 then f_X11_look_16 x h1 else if v3 < 10 then if x_b ((v1 * 20) + v2) 120 = true then x_let (x_i h1 (x + 12) ((v1 * 20) + v2).toNatClampNeg v3) (fun h3 => some (.inr (), h3)) else none else f_X11_look_16 x h1)
set_option maxRecDepth 20000 in
theorem B_X11_look_16 {p : Program} {l : Launch} {e : Env} {s : State} {m : MethodId} {args : Array Value} {below : List Frame} {meth : Method} {c : Code} {O : XO} {K : XK} {r : Nat ⊕ Unit} {h' : XH}   (C : x_C p s m args meth c O cX11_look 4 RX11 none)   (hst : l.stackTraces = false) (ls : Array Slot) (H : Heap) (locs : List Loc) (h : XH) (hl : lv_has ls 4 []) (hR : x_R O K h H) (hS : va_S (oA O) s.heap H locs) (hf : f_X11_look_16 (oX O) h = some (r, h')) : W p l e (x_rmX 8 133 3 18) s m args below meth c H locs 2 12 (vx_MQ below (x_XQ O K h' (x_rv x_gv r)) (x_XX O K h' (x_rv x_gv r)) args s 3 18 (oA O)) (F0 m 16 ls []) := by
  have hx := C.1
  have hb := C.2.1
  rw [f_X11_look_16] at hf
  cases hf
  exact x_thr tf_1 C hR hS hst hl.1 (xs_15 C) dX11_look_16 dX11_look_19 dX11_look_20 dX11_look_22 dX11_look_25 (Nat.le_of_ble_eq_true rfl) (by decide) (Nat.le_of_ble_eq_true rfl) (Nat.le_of_ble_eq_true rfl) (Nat.le_of_ble_eq_true rfl) (Nat.le_of_ble_eq_true rfl)
set_option maxRecDepth 20000 in
theorem S_X11_look {l : Launch} {O : XO} {K : XK} {h : XH} {v1 : Int32} {v2 : Int32} {v3 : Int32}  {r : Nat ⊕ Unit} {h' : XH} (hst : l.stackTraces = false) (hf : f_X11_look (oX O) h v1 v2 v3 = some (r, h')) : x_MX l O K yX11_look cX11_look 4 none 8 133 3 18 h [.ref (oX O), .int v1, .int v2, .int v3] (x_rv x_gv r) h' := by
  refine x_enterX (by decide) (Nat.le_of_ble_eq_true rfl) (fun p e s m args below meth c C hR ls hl => ?_)
  have hS : va_S (oA O) s.heap s.heap [] := va_S.rf
  have hx := C.1
  have hb := C.2.1
  have hl : lv_has ls 4 [(0, .ref (oX O)), (1, .int v1), (2, .int v2), (3, .int v3)] := hl
  rw [f_X11_look] at hf
  refine lv_aload_n hx hb dX11_look_0 rfl (lv_at hl 0 rfl) ?_
  refine lv_iload_n hx hb dX11_look_1 rfl (lv_at hl 1 rfl) ?_
  refine lv_iload_n hx hb dX11_look_2 rfl (lv_at hl 2 rfl) ?_
  obtain ⟨s1_, h1, eh1, ht1, hf⟩ := x_xbd hf
  refine x_xVv2 C hR hS (S_X11_checkDoor hst eh1) (x_k hR 0 rfl) (by decide) rfl mf_X11_checkDoor tw_920 (Nat.le_of_ble_eq_true rfl) (Nat.le_of_ble_eq_true rfl) hl.1 (Nat.le_of_ble_eq_true rfl) dX11_look_3 ⟨Nat.le_of_ble_eq_true rfl, Nat.le_of_ble_eq_true rfl⟩ (x_thx ht1) (Nat.le_of_ble_eq_true rfl) (Nat.le_of_ble_eq_true rfl) (fun hs1 H locs hR hS => ?_)
  have hf := hf () hs1
  refine lv_iload_n hx hb dX11_look_6 rfl (lv_at hl 3 rfl) ?_
  refine lv_if_lt (tgt := 16) hx hb dX11_look_7 rfl (fun hc => ?_) (fun hc => ?_)
  · have hf := x_ip hc hf
    exact B_X11_look_16  C  hst  ls _ _ h1  (lv_sub hl [] rfl) hR hS hf
  · have hf := x_in hc hf
    refine lv_iload_n hx hb dX11_look_10 rfl (lv_at hl 3 rfl) ?_
    refine lv_bipush (v := 10) hx hb dX11_look_11 rfl ?_
    refine lv_icmp_lt (tgt := 26) hx hb dX11_look_13 rfl (fun hc => ?_) (fun hc => ?_)
    · have hf := x_ip hc hf
      refine lv_aload_n hx hb dX11_look_26 rfl (lv_at hl 0 rfl) ?_
      refine gf_11_1 C hR (x_k hR 0 rfl) tw_496 dX11_look_27 ?_
      refine gf_7_3 C hR (x_k hR 9 rfl) tw_295 dX11_look_30 ?_
      refine lv_iload_n hx hb dX11_look_33 rfl (lv_at hl 1 rfl) ?_
      refine lv_bipush (v := 20) hx hb dX11_look_34 rfl ?_
      refine lv_imul hx hb dX11_look_36 ?_
      refine lv_iload_n hx hb dX11_look_37 rfl (lv_at hl 2 rfl) ?_
      refine lv_iadd hx hb dX11_look_38 ?_
      refine lv_iload_n hx hb dX11_look_39 rfl (lv_at hl 3 rfl) ?_
      obtain ⟨g2, hf⟩ := x_gd hf
      obtain ⟨h3, eh3, hf⟩ := x_lt hf
      refine x_iast C hR hS (x_k1 (x_k hR 12 rfl)) (x_k2 (x_k hR 12 rfl) g2) dX11_look_40 (fun H locs hR hS => ?_)
      rw [← eh3] at hR
      cases hf
      exact xx_vret C hR hS (Nat.le_of_ble_eq_true rfl) (Nat.le_of_ble_eq_true rfl) dX11_look_41
    · have hf := x_in hc hf
      exact B_X11_look_16  C  hst  ls _ _ h1  (lv_sub hl [] rfl) hR hS hf
def f_X11_pack_28 (K : XK) (x : Nat) (h : XH) : Option ((Nat ⊕ Int32) × XH) := some (.inl 1, h)
def f_X11_pack (K : XK) (x : Nat) (h : XH) (v1 : Int32) (v2 : Int32) (v3 : Int32) : Option ((Nat ⊕ Int32) × XH) := if v1 < 0 then f_X11_pack_28 K x h else if 52 ≤ v1 then f_X11_pack_28 K x h else if (f_X11_isStep h v2) = 0 then f_X11_pack_28 K x h else if v3 < 3 then f_X11_pack_28 K x h else if v3 ≤ 52 then if (h.1 (x + 9) 4) < 8 then if x_b (h.1 (x + 9) 4) 8 = true then Option.bind (f_X2_begin K ((x + 13) + 6 + 3 * (h.1 (x + 9) 4).toNatClampNeg) h v1 v2 v3) (fun h2 => x_let (x_i h2 (x + 9) 4 ((h2.1 (x + 9) 4) + 1)) (fun h3 => some (.inr ((h3.1 (x + 9) 4) - 1), h3))) else none else some (.inl 3, h) else f_X11_pack_28 K x h
set_option maxRecDepth 20000 in
theorem B_X11_pack_28 {p : Program} {l : Launch} {e : Env} {s : State} {m : MethodId} {args : Array Value} {below : List Frame} {meth : Method} {c : Code} {O : XO} {K : XK} {r : Nat ⊕ Int32} {h' : XH}   (C : x_C p s m args meth c O cX11_pack 4 RX11 (some .int))   (hst : l.stackTraces = false) (ls : Array Slot) (H : Heap) (locs : List Loc) (h : XH) (hl : lv_has ls 4 []) (hR : x_R O K h H) (hS : va_S (oA O) s.heap H locs) (hf : f_X11_pack_28 K (oX O) h = some (r, h')) : W p l e (x_rmX 6 90 1 6) s m args below meth c H locs 0 0 (vx_MQ below (x_XQ O K h' (x_rv x_gi r)) (x_XX O K h' (x_rv x_gi r)) args s 1 6 (oA O)) (F0 m 28 ls []) := by
  have hx := C.1
  have hb := C.2.1
  rw [f_X11_pack_28] at hf
  cases hf
  exact x_thr tf_1 C hR hS hst hl.1 (xs_16 C) dX11_pack_28 dX11_pack_31 dX11_pack_32 dX11_pack_34 dX11_pack_37 (Nat.le_of_ble_eq_true rfl) (by decide) (Nat.le_of_ble_eq_true rfl) (Nat.le_of_ble_eq_true rfl) (Nat.le_of_ble_eq_true rfl) (Nat.le_of_ble_eq_true rfl)
set_option maxRecDepth 20000 in
theorem S_X11_pack {l : Launch} {O : XO} {K : XK} {h : XH} {v1 : Int32} {v2 : Int32} {v3 : Int32}  {r : Nat ⊕ Int32} {h' : XH} (hst : l.stackTraces = false) (hf : f_X11_pack K (oX O) h v1 v2 v3 = some (r, h')) : x_MX l O K yX11_pack cX11_pack 4 (some .int) 6 90 1 6 h [.ref (oX O), .int v1, .int v2, .int v3] (x_rv x_gi r) h' := by
  refine x_enterX (by decide) (Nat.le_of_ble_eq_true rfl) (fun p e s m args below meth c C hR ls hl => ?_)
  have hS : va_S (oA O) s.heap s.heap [] := va_S.rf
  have hx := C.1
  have hb := C.2.1
  have hl : lv_has ls 4 [(0, .ref (oX O)), (1, .int v1), (2, .int v2), (3, .int v3)] := hl
  rw [f_X11_pack] at hf
  refine lv_iload_n hx hb dX11_pack_0 rfl (lv_at hl 1 rfl) ?_
  refine lv_if_lt (tgt := 28) hx hb dX11_pack_1 rfl (fun hc => ?_) (fun hc => ?_)
  · have hf := x_ip hc hf
    exact B_X11_pack_28  C  hst  ls _ _ h  (lv_sub hl [] rfl) hR hS hf
  · have hf := x_in hc hf
    refine lv_iload_n hx hb dX11_pack_4 rfl (lv_at hl 1 rfl) ?_
    refine lv_bipush (v := 52) hx hb dX11_pack_5 rfl ?_
    refine lv_icmp_ge (tgt := 28) hx hb dX11_pack_7 rfl (fun hc => ?_) (fun hc => ?_)
    · have hf := x_ip hc hf
      exact B_X11_pack_28  C  hst  ls _ _ h  (lv_sub hl [] rfl) hR hS hf
    · have hf := x_in hc hf
      refine lv_iload_n hx hb dX11_pack_10 rfl (lv_at hl 2 rfl) ?_
      refine x_cSi1 C hR hS (S_X11_isStep  rfl) mf_X11_isStep tw_938 (Nat.le_of_ble_eq_true rfl) (Nat.le_of_ble_eq_true rfl) hl.1 (Nat.le_of_ble_eq_true rfl) dX11_pack_11 ⟨Nat.le_of_ble_eq_true rfl, Nat.le_of_ble_eq_true rfl⟩ (fun H locs hR hS => ?_)
      refine lv_if_eq (tgt := 28) hx hb dX11_pack_14 rfl (fun hc => ?_) (fun hc => ?_)
      · have hf := x_ip hc hf
        exact B_X11_pack_28  C  hst  ls _ _ h  (lv_sub hl [] rfl) hR hS hf
      · have hf := x_in hc hf
        refine lv_iload_n hx hb dX11_pack_17 rfl (lv_at hl 3 rfl) ?_
        refine lv_iconst (v := 3) hx hb dX11_pack_18 rfl ?_
        refine lv_icmp_lt (tgt := 28) hx hb dX11_pack_19 rfl (fun hc => ?_) (fun hc => ?_)
        · have hf := x_ip hc hf
          exact B_X11_pack_28  C  hst  ls _ _ h  (lv_sub hl [] rfl) hR hS hf
        · have hf := x_in hc hf
          refine lv_iload_n hx hb dX11_pack_22 rfl (lv_at hl 3 rfl) ?_
          refine lv_bipush (v := 52) hx hb dX11_pack_23 rfl ?_
          refine lv_icmp_le (tgt := 38) hx hb dX11_pack_25 rfl (fun hc => ?_) (fun hc => ?_)
          · have hf := x_ip hc hf
            refine lv_aload_n hx hb dX11_pack_38 rfl (lv_at hl 0 rfl) ?_
            refine gf_11_1 C hR (x_k hR 0 rfl) tw_496 dX11_pack_39 ?_
            refine gf_7_4 C hR (x_k hR 9 rfl) tw_299 dX11_pack_42 ?_
            refine lv_bipush (v := 8) hx hb dX11_pack_45 rfl ?_
            refine lv_icmp_lt (tgt := 60) hx hb dX11_pack_47 rfl (fun hc => ?_) (fun hc => ?_)
            · have hf := x_ip hc hf
              refine lv_aload_n hx hb dX11_pack_60 rfl (lv_at hl 0 rfl) ?_
              refine gf_11_1 C hR (x_k hR 0 rfl) tw_496 dX11_pack_61 ?_
              refine gf_7_5 C hR (x_k hR 9 rfl) tw_305 dX11_pack_64 ?_
              refine lv_aload_n hx hb dX11_pack_67 rfl (lv_at hl 0 rfl) ?_
              refine gf_11_1 C hR (x_k hR 0 rfl) tw_496 dX11_pack_68 ?_
              refine gf_7_4 C hR (x_k hR 9 rfl) tw_299 dX11_pack_71 ?_
              obtain ⟨g1, hf⟩ := x_gd hf
              refine x_paald C hR (x_k1 (x_k hR 13 rfl)) (x_k2 (x_k hR 13 rfl) g1) dX11_pack_74 ?_
              refine lv_iload_n hx hb dX11_pack_75 rfl (lv_at hl 1 rfl) ?_
              refine lv_iload_n hx hb dX11_pack_76 rfl (lv_at hl 2 rfl) ?_
              refine lv_iload_n hx hb dX11_pack_77 rfl (lv_at hl 3 rfl) ?_
              obtain ⟨h2, eh2, hf⟩ := x_bd hf
              refine x_cVv3 C hR hS (S_X2_begin (x_kP hR (x_k hR 13 rfl) g1) eh2) (x_kP hR (x_k hR 13 rfl) g1) (by decide) rfl mf_X2_begin tw_943 (Nat.le_of_ble_eq_true rfl) (Nat.le_of_ble_eq_true rfl) hl.1 (Nat.le_of_ble_eq_true rfl) dX11_pack_78 ⟨Nat.le_of_ble_eq_true rfl, Nat.le_of_ble_eq_true rfl⟩ (fun H locs hR hS => ?_)
              refine lv_aload_n hx hb dX11_pack_81 rfl (lv_at hl 0 rfl) ?_
              refine gf_11_1 C hR (x_k hR 0 rfl) tw_496 dX11_pack_82 ?_
              refine lv_dup hx hb dX11_pack_85 rfl ?_
              refine gf_7_4 C hR (x_k hR 9 rfl) tw_299 dX11_pack_86 ?_
              refine lv_iconst (v := 1) hx hb dX11_pack_89 rfl ?_
              refine lv_iadd hx hb dX11_pack_90 ?_
              obtain ⟨h3, eh3, hf⟩ := x_lt hf
              refine pf_7_4 C hR hS (x_k hR 9 rfl) tw_299 dX11_pack_91 (fun H locs hR hS => ?_)
              rw [← eh3] at hR
              refine lv_aload_n hx hb dX11_pack_94 rfl (lv_at hl 0 rfl) ?_
              refine gf_11_1 C hR (x_k hR 0 rfl) tw_496 dX11_pack_95 ?_
              refine gf_7_4 C hR (x_k hR 9 rfl) tw_299 dX11_pack_98 ?_
              refine lv_iconst (v := 1) hx hb dX11_pack_101 rfl ?_
              refine lv_isub hx hb dX11_pack_102 ?_
              cases hf
              exact xx_iret C hR hS (Nat.le_of_ble_eq_true rfl) (Nat.le_of_ble_eq_true rfl) dX11_pack_103
            · have hf := x_in hc hf
              cases hf
              exact x_thr tf_3 C hR hS hst hl.1 (xs_17 C) dX11_pack_50 dX11_pack_53 dX11_pack_54 dX11_pack_56 dX11_pack_59 (Nat.le_of_ble_eq_true rfl) (by decide) (Nat.le_of_ble_eq_true rfl) (Nat.le_of_ble_eq_true rfl) (Nat.le_of_ble_eq_true rfl) (Nat.le_of_ble_eq_true rfl)
          · have hf := x_in hc hf
            exact B_X11_pack_28  C  hst  ls _ _ h  (lv_sub hl [] rfl) hR hS hf
def f_X11_card (x : Nat) (h : XH) (v1 : Int32) (v2 : Int32) : Option ((Nat ⊕ Int32) × XH) := x_xb (f_X11_checkPlaceIn x h v1 v2) (fun _ h1 => if x_b v1 8 = true then some (.inr (f_X2_cardAt ((x + 13) + 6 + 3 * v1.toNatClampNeg) h1 v2), h1) else none)
set_option maxRecDepth 20000 in
theorem S_X11_card {l : Launch} {O : XO} {K : XK} {h : XH} {v1 : Int32} {v2 : Int32}  {r : Nat ⊕ Int32} {h' : XH} (hst : l.stackTraces = false) (hf : f_X11_card (oX O) h v1 v2 = some (r, h')) : x_MX l O K yX11_card cX11_card 3 (some .int) 8 133 2 12 h [.ref (oX O), .int v1, .int v2] (x_rv x_gi r) h' := by
  refine x_enterX (by decide) (Nat.le_of_ble_eq_true rfl) (fun p e s m args below meth c C hR ls hl => ?_)
  have hS : va_S (oA O) s.heap s.heap [] := va_S.rf
  have hx := C.1
  have hb := C.2.1
  have hl : lv_has ls 3 [(0, .ref (oX O)), (1, .int v1), (2, .int v2)] := hl
  rw [f_X11_card] at hf
  refine lv_aload_n hx hb dX11_card_0 rfl (lv_at hl 0 rfl) ?_
  refine lv_iload_n hx hb dX11_card_1 rfl (lv_at hl 1 rfl) ?_
  refine lv_iload_n hx hb dX11_card_2 rfl (lv_at hl 2 rfl) ?_
  obtain ⟨s1_, h1, eh1, ht1, hf⟩ := x_xbd hf
  refine x_xVv2 C hR hS (S_X11_checkPlaceIn hst eh1) (x_k hR 0 rfl) (by decide) rfl mf_X11_checkPlaceIn tw_955 (Nat.le_of_ble_eq_true rfl) (Nat.le_of_ble_eq_true rfl) hl.1 (Nat.le_of_ble_eq_true rfl) dX11_card_3 ⟨Nat.le_of_ble_eq_true rfl, Nat.le_of_ble_eq_true rfl⟩ (x_thx ht1) (Nat.le_of_ble_eq_true rfl) (Nat.le_of_ble_eq_true rfl) (fun hs1 H locs hR hS => ?_)
  have hf := hf () hs1
  refine lv_aload_n hx hb dX11_card_6 rfl (lv_at hl 0 rfl) ?_
  refine gf_11_1 C hR (x_k hR 0 rfl) tw_496 dX11_card_7 ?_
  refine gf_7_5 C hR (x_k hR 9 rfl) tw_305 dX11_card_10 ?_
  refine lv_iload_n hx hb dX11_card_13 rfl (lv_at hl 1 rfl) ?_
  obtain ⟨g2, hf⟩ := x_gd hf
  refine x_paald C hR (x_k1 (x_k hR 13 rfl)) (x_k2 (x_k hR 13 rfl) g2) dX11_card_14 ?_
  refine lv_iload_n hx hb dX11_card_15 rfl (lv_at hl 2 rfl) ?_
  refine x_cVi1 C hR hS (S_X2_cardAt (x_kP hR (x_k hR 13 rfl) g2) rfl) (x_kP hR (x_k hR 13 rfl) g2) (by decide) rfl mf_X2_cardAt tw_965 (Nat.le_of_ble_eq_true rfl) (Nat.le_of_ble_eq_true rfl) hl.1 (Nat.le_of_ble_eq_true rfl) dX11_card_16 ⟨Nat.le_of_ble_eq_true rfl, Nat.le_of_ble_eq_true rfl⟩ (fun H locs hR hS => ?_)
  cases hf
  exact xx_iret C hR hS (Nat.le_of_ble_eq_true rfl) (Nat.le_of_ble_eq_true rfl) dX11_card_19
def f_X11_put (x : Nat) (h : XH) (v1 : Int32) (v2 : Int32) (v3 : Int32) (v4 : Int32) (v5 : Int32) : Option ((Nat ⊕ Int32) × XH) := x_xb (f_X11_checkPack x h v1) (fun _ h1 => x_xb (f_X11_checkDoor x h1 v2 v3) (fun _ h2 => if x_b v1 8 = true then if (h2.1 ((x + 13) + 6 + 3 * v1.toNatClampNeg) 3) = 0 then x_xb (f_X11_checkPer x h2 v4) (fun _ h4 => x_xb (f_X11_checkSeconds x h4 v5) (fun _ h5 => Option.bind (f_X2_placesBy ((x + 13) + 6 + 3 * v1.toNatClampNeg) h5 v4) (fun v_6 => if x_b v2 6 = true then if (v3 + v_6) ≤ (h5.1 (x + 11) v2.toNatClampNeg) then x_xb (f_X11_checkClock x h5 (v_6 * v5)) (fun _ h8 => x_let (x_i h8 ((x + 13) + 6 + 3 * v1.toNatClampNeg) 3 1) (fun h9 => x_let (f_X4_begin (((x + 13) + 6 + 3 * v1.toNatClampNeg) + 1) h9 v2 v3 v4 v5) (fun h10 => x_let (x_i h10 (((x + 13) + 6 + 3 * v1.toNatClampNeg) + 1) 7 (h10.1 (x + 9) 6)) (fun h11 => x_let (f_X4_touchFrom (((x + 13) + 6 + 3 * v1.toNatClampNeg) + 1) h11 (h11.1 (x + 9) 7) v5) (fun h12 => x_let (x_i h12 (x + 9) 6 ((h12.1 (x + 9) 6) + 1)) (fun h13 => x_let (x_i h13 (x + 9) 7 ((h13.1 (x + 9) 7) + (v_6 * v5))) (fun h14 => some (.inr v_6, h14)))))))) else some (.inl 1, h5) else none))) else some (.inl 2, h2) else none))
set_option maxRecDepth 20000 in
theorem S_X11_put {l : Launch} {O : XO} {K : XK} {h : XH} {v1 : Int32} {v2 : Int32} {v3 : Int32} {v4 : Int32} {v5 : Int32}  {r : Nat ⊕ Int32} {h' : XH} (hst : l.stackTraces = false) (hf : f_X11_put (oX O) h v1 v2 v3 v4 v5 = some (r, h')) : x_MX l O K yX11_put cX11_put 8 (some .int) 8 133 7 42 h [.ref (oX O), .int v1, .int v2, .int v3, .int v4, .int v5] (x_rv x_gi r) h' := by
  refine x_enterX (by decide) (Nat.le_of_ble_eq_true rfl) (fun p e s m args below meth c C hR ls hl => ?_)
  have hS : va_S (oA O) s.heap s.heap [] := va_S.rf
  have hx := C.1
  have hb := C.2.1
  have hl : lv_has ls 8 [(0, .ref (oX O)), (1, .int v1), (2, .int v2), (3, .int v3), (4, .int v4), (5, .int v5)] := hl
  rw [f_X11_put] at hf
  refine lv_aload_n hx hb dX11_put_0 rfl (lv_at hl 0 rfl) ?_
  refine lv_iload_n hx hb dX11_put_1 rfl (lv_at hl 1 rfl) ?_
  obtain ⟨s1_, h1, eh1, ht1, hf⟩ := x_xbd hf
  refine x_xVv1 C hR hS (S_X11_checkPack hst eh1) (x_k hR 0 rfl) (by decide) rfl mf_X11_checkPack tw_959 (Nat.le_of_ble_eq_true rfl) (Nat.le_of_ble_eq_true rfl) hl.1 (Nat.le_of_ble_eq_true rfl) dX11_put_2 ⟨Nat.le_of_ble_eq_true rfl, Nat.le_of_ble_eq_true rfl⟩ (x_thx ht1) (Nat.le_of_ble_eq_true rfl) (Nat.le_of_ble_eq_true rfl) (fun hs1 H locs hR hS => ?_)
  have hf := hf () hs1
  refine lv_aload_n hx hb dX11_put_5 rfl (lv_at hl 0 rfl) ?_
  refine lv_iload_n hx hb dX11_put_6 rfl (lv_at hl 2 rfl) ?_
  refine lv_iload_n hx hb dX11_put_7 rfl (lv_at hl 3 rfl) ?_
  obtain ⟨s2_, h2, eh2, ht2, hf⟩ := x_xbd hf
  refine x_xVv2 C hR hS (S_X11_checkDoor hst eh2) (x_k hR 0 rfl) (by decide) rfl mf_X11_checkDoor tw_920 (Nat.le_of_ble_eq_true rfl) (Nat.le_of_ble_eq_true rfl) hl.1 (Nat.le_of_ble_eq_true rfl) dX11_put_8 ⟨Nat.le_of_ble_eq_true rfl, Nat.le_of_ble_eq_true rfl⟩ (x_thx ht2) (Nat.le_of_ble_eq_true rfl) (Nat.le_of_ble_eq_true rfl) (fun hs2 H locs hR hS => ?_)
  have hf := hf () hs2
  refine lv_aload_n hx hb dX11_put_11 rfl (lv_at hl 0 rfl) ?_
  refine gf_11_1 C hR (x_k hR 0 rfl) tw_496 dX11_put_12 ?_
  refine gf_7_5 C hR (x_k hR 9 rfl) tw_305 dX11_put_15 ?_
  refine lv_iload_n hx hb dX11_put_18 rfl (lv_at hl 1 rfl) ?_
  obtain ⟨g3, hf⟩ := x_gd hf
  refine x_paald C hR (x_k1 (x_k hR 13 rfl)) (x_k2 (x_k hR 13 rfl) g3) dX11_put_19 ?_
  refine lv_astore (lv' := [(6, _), (0, _), (1, _), (2, _), (3, _), (4, _), (5, _)]) hx hb dX11_put_20 hl (Nat.le_of_ble_eq_true rfl) rfl (fun ls hl => ?_)
  refine lv_aload hx hb dX11_put_22 (lv_at hl 0 rfl) ?_
  refine gf_2_3 C hR (x_kP hR (x_k hR 13 rfl) g3) tw_261 dX11_put_24 ?_
  refine lv_if_eq (tgt := 40) hx hb dX11_put_27 rfl (fun hc => ?_) (fun hc => ?_)
  · have hf := x_ip hc hf
    refine lv_aload_n hx hb dX11_put_40 rfl (lv_at hl 1 rfl) ?_
    refine lv_iload hx hb dX11_put_41 (lv_at hl 5 rfl) ?_
    obtain ⟨s4_, h4, eh4, ht4, hf⟩ := x_xbd hf
    refine x_xVv1 C hR hS (S_X11_checkPer hst eh4) (x_k hR 0 rfl) (by decide) rfl mf_X11_checkPer tw_990 (Nat.le_of_ble_eq_true rfl) (Nat.le_of_ble_eq_true rfl) hl.1 (Nat.le_of_ble_eq_true rfl) dX11_put_43 ⟨Nat.le_of_ble_eq_true rfl, Nat.le_of_ble_eq_true rfl⟩ (x_thx ht4) (Nat.le_of_ble_eq_true rfl) (Nat.le_of_ble_eq_true rfl) (fun hs4 H locs hR hS => ?_)
    have hf := hf () hs4
    refine lv_aload_n hx hb dX11_put_46 rfl (lv_at hl 1 rfl) ?_
    refine lv_iload hx hb dX11_put_47 (lv_at hl 6 rfl) ?_
    obtain ⟨s5_, h5, eh5, ht5, hf⟩ := x_xbd hf
    refine x_xVv1 C hR hS (S_X11_checkSeconds hst eh5) (x_k hR 0 rfl) (by decide) rfl mf_X11_checkSeconds tw_995 (Nat.le_of_ble_eq_true rfl) (Nat.le_of_ble_eq_true rfl) hl.1 (Nat.le_of_ble_eq_true rfl) dX11_put_49 ⟨Nat.le_of_ble_eq_true rfl, Nat.le_of_ble_eq_true rfl⟩ (x_thx ht5) (Nat.le_of_ble_eq_true rfl) (Nat.le_of_ble_eq_true rfl) (fun hs5 H locs hR hS => ?_)
    have hf := hf () hs5
    refine lv_aload hx hb dX11_put_52 (lv_at hl 0 rfl) ?_
    refine lv_iload hx hb dX11_put_54 (lv_at hl 5 rfl) ?_
    obtain ⟨v_6, ev_6, hf⟩ := x_bd hf
    refine x_cVi1 C hR hS (S_X2_placesBy (x_kP hR (x_k hR 13 rfl) g3) ev_6) (x_kP hR (x_k hR 13 rfl) g3) (by decide) rfl mf_X2_placesBy tw_1000 (Nat.le_of_ble_eq_true rfl) (Nat.le_of_ble_eq_true rfl) hl.1 (Nat.le_of_ble_eq_true rfl) dX11_put_56 ⟨Nat.le_of_ble_eq_true rfl, Nat.le_of_ble_eq_true rfl⟩ (fun H locs hR hS => ?_)
    refine lv_istore (lv' := [(7, _), (6, _), (0, _), (1, _), (2, _), (3, _), (4, _), (5, _)]) hx hb dX11_put_59 hl (Nat.le_of_ble_eq_true rfl) rfl (fun ls hl => ?_)
    refine lv_iload_n hx hb dX11_put_61 rfl (lv_at hl 5 rfl) ?_
    refine lv_iload hx hb dX11_put_62 (lv_at hl 0 rfl) ?_
    refine lv_iadd hx hb dX11_put_64 ?_
    refine lv_aload_n hx hb dX11_put_65 rfl (lv_at hl 2 rfl) ?_
    refine gf_11_1 C hR (x_k hR 0 rfl) tw_496 dX11_put_66 ?_
    refine gf_7_2 C hR (x_k hR 9 rfl) tw_293 dX11_put_69 ?_
    refine lv_iload_n hx hb dX11_put_72 rfl (lv_at hl 4 rfl) ?_
    obtain ⟨g7, hf⟩ := x_gd hf
    refine x_iald C hR (x_k1 (x_k hR 11 rfl)) (x_k2 (x_k hR 11 rfl) g7) dX11_put_73 ?_
    refine lv_icmp_le (tgt := 87) hx hb dX11_put_74 rfl (fun hc => ?_) (fun hc => ?_)
    · have hf := x_ip hc hf
      refine lv_aload_n hx hb dX11_put_87 rfl (lv_at hl 2 rfl) ?_
      refine lv_iload hx hb dX11_put_88 (lv_at hl 0 rfl) ?_
      refine lv_iload hx hb dX11_put_90 (lv_at hl 7 rfl) ?_
      refine lv_imul hx hb dX11_put_92 ?_
      obtain ⟨s8_, h8, eh8, ht8, hf⟩ := x_xbd hf
      refine x_xVv1 C hR hS (S_X11_checkClock hst eh8) (x_k hR 0 rfl) (by decide) rfl mf_X11_checkClock tw_1005 (Nat.le_of_ble_eq_true rfl) (Nat.le_of_ble_eq_true rfl) hl.1 (Nat.le_of_ble_eq_true rfl) dX11_put_93 ⟨Nat.le_of_ble_eq_true rfl, Nat.le_of_ble_eq_true rfl⟩ (x_thx ht8) (Nat.le_of_ble_eq_true rfl) (Nat.le_of_ble_eq_true rfl) (fun hs8 H locs hR hS => ?_)
      have hf := hf () hs8
      refine lv_aload hx hb dX11_put_96 (lv_at hl 1 rfl) ?_
      refine lv_iconst (v := 1) hx hb dX11_put_98 rfl ?_
      obtain ⟨h9, eh9, hf⟩ := x_lt hf
      refine pf_2_3 C hR hS (Or.inr rfl) (x_kP hR (x_k hR 13 rfl) g3) tw_261 dX11_put_99 (fun H locs hR hS => ?_)
      rw [← eh9] at hR
      refine lv_aload hx hb dX11_put_102 (lv_at hl 1 rfl) ?_
      refine gf_2_4 C hR (x_kP hR (x_k hR 13 rfl) g3) tw_266 dX11_put_104 ?_
      refine lv_iload_n hx hb dX11_put_107 rfl (lv_at hl 4 rfl) ?_
      refine lv_iload_n hx hb dX11_put_108 rfl (lv_at hl 5 rfl) ?_
      refine lv_iload hx hb dX11_put_109 (lv_at hl 6 rfl) ?_
      refine lv_iload hx hb dX11_put_111 (lv_at hl 7 rfl) ?_
      obtain ⟨h10, eh10, hf⟩ := x_lt hf
      refine x_cVv4 C hR hS (S_X4_begin (kf_2_1 hR (x_kP hR (x_k hR 13 rfl) g3)) eh10.symm) (kf_2_1 hR (x_kP hR (x_k hR 13 rfl) g3)) (by decide) rfl mf_X4_begin tw_1011 (Nat.le_of_ble_eq_true rfl) (Nat.le_of_ble_eq_true rfl) hl.1 (Nat.le_of_ble_eq_true rfl) dX11_put_113 ⟨Nat.le_of_ble_eq_true rfl, Nat.le_of_ble_eq_true rfl⟩ (fun H locs hR hS => ?_)
      refine lv_aload hx hb dX11_put_116 (lv_at hl 1 rfl) ?_
      refine gf_2_4 C hR (x_kP hR (x_k hR 13 rfl) g3) tw_266 dX11_put_118 ?_
      refine lv_aload_n hx hb dX11_put_121 rfl (lv_at hl 2 rfl) ?_
      refine gf_11_1 C hR (x_k hR 0 rfl) tw_496 dX11_put_122 ?_
      refine gf_7_6 C hR (x_k hR 9 rfl) tw_308 dX11_put_125 ?_
      obtain ⟨h11, eh11, hf⟩ := x_lt hf
      refine pf_4_7 C hR hS (kf_2_1 hR (x_kP hR (x_k hR 13 rfl) g3)) tw_232 dX11_put_128 (fun H locs hR hS => ?_)
      rw [← eh11] at hR
      refine lv_aload hx hb dX11_put_131 (lv_at hl 1 rfl) ?_
      refine gf_2_4 C hR (x_kP hR (x_k hR 13 rfl) g3) tw_266 dX11_put_133 ?_
      refine lv_aload_n hx hb dX11_put_136 rfl (lv_at hl 2 rfl) ?_
      refine gf_11_1 C hR (x_k hR 0 rfl) tw_496 dX11_put_137 ?_
      refine gf_7_7 C hR (x_k hR 9 rfl) tw_312 dX11_put_140 ?_
      refine lv_iload hx hb dX11_put_143 (lv_at hl 7 rfl) ?_
      obtain ⟨h12, eh12, hf⟩ := x_lt hf
      refine x_cVv2 C hR hS (S_X4_touchFrom (kf_2_1 hR (x_kP hR (x_k hR 13 rfl) g3)) eh12.symm) (kf_2_1 hR (x_kP hR (x_k hR 13 rfl) g3)) (by decide) rfl mf_X4_touchFrom tw_1015 (Nat.le_of_ble_eq_true rfl) (Nat.le_of_ble_eq_true rfl) hl.1 (Nat.le_of_ble_eq_true rfl) dX11_put_145 ⟨Nat.le_of_ble_eq_true rfl, Nat.le_of_ble_eq_true rfl⟩ (fun H locs hR hS => ?_)
      refine lv_aload_n hx hb dX11_put_148 rfl (lv_at hl 2 rfl) ?_
      refine gf_11_1 C hR (x_k hR 0 rfl) tw_496 dX11_put_149 ?_
      refine lv_dup hx hb dX11_put_152 rfl ?_
      refine gf_7_6 C hR (x_k hR 9 rfl) tw_308 dX11_put_153 ?_
      refine lv_iconst (v := 1) hx hb dX11_put_156 rfl ?_
      refine lv_iadd hx hb dX11_put_157 ?_
      obtain ⟨h13, eh13, hf⟩ := x_lt hf
      refine pf_7_6 C hR hS (x_k hR 9 rfl) tw_308 dX11_put_158 (fun H locs hR hS => ?_)
      rw [← eh13] at hR
      refine lv_aload_n hx hb dX11_put_161 rfl (lv_at hl 2 rfl) ?_
      refine gf_11_1 C hR (x_k hR 0 rfl) tw_496 dX11_put_162 ?_
      refine lv_dup hx hb dX11_put_165 rfl ?_
      refine gf_7_7 C hR (x_k hR 9 rfl) tw_312 dX11_put_166 ?_
      refine lv_iload hx hb dX11_put_169 (lv_at hl 0 rfl) ?_
      refine lv_iload hx hb dX11_put_171 (lv_at hl 7 rfl) ?_
      refine lv_imul hx hb dX11_put_173 ?_
      refine lv_iadd hx hb dX11_put_174 ?_
      obtain ⟨h14, eh14, hf⟩ := x_lt hf
      refine pf_7_7 C hR hS (x_k hR 9 rfl) tw_312 dX11_put_175 (fun H locs hR hS => ?_)
      rw [← eh14] at hR
      refine lv_iload hx hb dX11_put_178 (lv_at hl 0 rfl) ?_
      cases hf
      exact xx_iret C hR hS (Nat.le_of_ble_eq_true rfl) (Nat.le_of_ble_eq_true rfl) dX11_put_180
    · have hf := x_in hc hf
      cases hf
      exact x_thr tf_1 C hR hS hst hl.1 (xs_23 C) dX11_put_77 dX11_put_80 dX11_put_81 dX11_put_83 dX11_put_86 (Nat.le_of_ble_eq_true rfl) (by decide) (Nat.le_of_ble_eq_true rfl) (Nat.le_of_ble_eq_true rfl) (Nat.le_of_ble_eq_true rfl) (Nat.le_of_ble_eq_true rfl)
  · have hf := x_in hc hf
    cases hf
    exact x_thr tf_2 C hR hS hst hl.1 (xs_20 C) dX11_put_30 dX11_put_33 dX11_put_34 dX11_put_36 dX11_put_39 (Nat.le_of_ble_eq_true rfl) (by decide) (Nat.le_of_ble_eq_true rfl) (Nat.le_of_ble_eq_true rfl) (Nat.le_of_ble_eq_true rfl) (Nat.le_of_ble_eq_true rfl)
def f_X11_later (x : Nat) (h : XH) (v1 : Int32) : Option ((Nat ⊕ Int32) × XH) := if 0 ≤ v1 then x_xb (f_X11_checkClock x h v1) (fun _ h1 => x_let (x_i h1 (x + 9) 7 ((h1.1 (x + 9) 7) + v1)) (fun h2 => some (.inr (h2.1 (x + 9) 7), h2))) else some (.inl 1, h)
set_option maxRecDepth 20000 in
theorem S_X11_later {l : Launch} {O : XO} {K : XK} {h : XH} {v1 : Int32}  {r : Nat ⊕ Int32} {h' : XH} (hst : l.stackTraces = false) (hf : f_X11_later (oX O) h v1 = some (r, h')) : x_MX l O K yX11_later cX11_later 2 (some .int) 7 111 2 12 h [.ref (oX O), .int v1] (x_rv x_gi r) h' := by
  refine x_enterX (by decide) (Nat.le_of_ble_eq_true rfl) (fun p e s m args below meth c C hR ls hl => ?_)
  have hS : va_S (oA O) s.heap s.heap [] := va_S.rf
  have hx := C.1
  have hb := C.2.1
  have hl : lv_has ls 2 [(0, .ref (oX O)), (1, .int v1)] := hl
  rw [f_X11_later] at hf
  refine lv_iload_n hx hb dX11_later_0 rfl (lv_at hl 1 rfl) ?_
  refine lv_if_ge (tgt := 14) hx hb dX11_later_1 rfl (fun hc => ?_) (fun hc => ?_)
  · have hf := x_ip hc hf
    refine lv_aload_n hx hb dX11_later_14 rfl (lv_at hl 0 rfl) ?_
    refine lv_iload_n hx hb dX11_later_15 rfl (lv_at hl 1 rfl) ?_
    obtain ⟨s1_, h1, eh1, ht1, hf⟩ := x_xbd hf
    refine x_xVv1 C hR hS (S_X11_checkClock hst eh1) (x_k hR 0 rfl) (by decide) rfl mf_X11_checkClock tw_1005 (Nat.le_of_ble_eq_true rfl) (Nat.le_of_ble_eq_true rfl) hl.1 (Nat.le_of_ble_eq_true rfl) dX11_later_16 ⟨Nat.le_of_ble_eq_true rfl, Nat.le_of_ble_eq_true rfl⟩ (x_thx ht1) (Nat.le_of_ble_eq_true rfl) (Nat.le_of_ble_eq_true rfl) (fun hs1 H locs hR hS => ?_)
    have hf := hf () hs1
    refine lv_aload_n hx hb dX11_later_19 rfl (lv_at hl 0 rfl) ?_
    refine gf_11_1 C hR (x_k hR 0 rfl) tw_496 dX11_later_20 ?_
    refine lv_dup hx hb dX11_later_23 rfl ?_
    refine gf_7_7 C hR (x_k hR 9 rfl) tw_312 dX11_later_24 ?_
    refine lv_iload_n hx hb dX11_later_27 rfl (lv_at hl 1 rfl) ?_
    refine lv_iadd hx hb dX11_later_28 ?_
    obtain ⟨h2, eh2, hf⟩ := x_lt hf
    refine pf_7_7 C hR hS (x_k hR 9 rfl) tw_312 dX11_later_29 (fun H locs hR hS => ?_)
    rw [← eh2] at hR
    refine lv_aload_n hx hb dX11_later_32 rfl (lv_at hl 0 rfl) ?_
    refine gf_11_1 C hR (x_k hR 0 rfl) tw_496 dX11_later_33 ?_
    refine gf_7_7 C hR (x_k hR 9 rfl) tw_312 dX11_later_36 ?_
    cases hf
    exact xx_iret C hR hS (Nat.le_of_ble_eq_true rfl) (Nat.le_of_ble_eq_true rfl) dX11_later_39
  · have hf := x_in hc hf
    cases hf
    exact x_thr tf_1 C hR hS hst hl.1 (xs_25 C) dX11_later_4 dX11_later_7 dX11_later_8 dX11_later_10 dX11_later_13 (Nat.le_of_ble_eq_true rfl) (by decide) (Nat.le_of_ble_eq_true rfl) (Nat.le_of_ble_eq_true rfl) (Nat.le_of_ble_eq_true rfl) (Nat.le_of_ble_eq_true rfl)
def f_X11_go (x : Nat) (h : XH) (v1 : Int32) (v2 : Int32) : Option ((Nat ⊕ Int32) × XH) := x_xb (f_X11_checkPut x h v1) (fun _ h1 => x_xb (f_X11_checkSeconds x h1 v2) (fun _ h2 => if x_b v1 8 = true then Option.bind (f_X2_places ((x + 13) + 6 + 3 * v1.toNatClampNeg) h2) (fun v_4 => x_xb (f_X11_checkClock x h2 (v_4 * v2)) (fun _ h5 => x_let (f_X4_touchFrom (((x + 13) + 6 + 3 * v1.toNatClampNeg) + 1) h5 (h5.1 (x + 9) 7) v2) (fun h6 => x_let (x_i h6 (((x + 13) + 6 + 3 * v1.toNatClampNeg) + 1) 4 ((h6.1 (((x + 13) + 6 + 3 * v1.toNatClampNeg) + 1) 4) + 1)) (fun h7 => x_let (x_i h7 (x + 9) 7 ((h7.1 (x + 9) 7) + (v_4 * v2))) (fun h8 => some (.inr (h8.1 (((x + 13) + 6 + 3 * v1.toNatClampNeg) + 1) 4), h8)))))) else none))
set_option maxRecDepth 20000 in
theorem S_X11_go {l : Launch} {O : XO} {K : XK} {h : XH} {v1 : Int32} {v2 : Int32}  {r : Nat ⊕ Int32} {h' : XH} (hst : l.stackTraces = false) (hf : f_X11_go (oX O) h v1 v2 = some (r, h')) : x_MX l O K yX11_go cX11_go 5 (some .int) 8 132 4 24 h [.ref (oX O), .int v1, .int v2] (x_rv x_gi r) h' := by
  refine x_enterX (by decide) (Nat.le_of_ble_eq_true rfl) (fun p e s m args below meth c C hR ls hl => ?_)
  have hS : va_S (oA O) s.heap s.heap [] := va_S.rf
  have hx := C.1
  have hb := C.2.1
  have hl : lv_has ls 5 [(0, .ref (oX O)), (1, .int v1), (2, .int v2)] := hl
  rw [f_X11_go] at hf
  refine lv_aload_n hx hb dX11_go_0 rfl (lv_at hl 0 rfl) ?_
  refine lv_iload_n hx hb dX11_go_1 rfl (lv_at hl 1 rfl) ?_
  obtain ⟨s1_, h1, eh1, ht1, hf⟩ := x_xbd hf
  refine x_xVv1 C hR hS (S_X11_checkPut hst eh1) (x_k hR 0 rfl) (by decide) rfl mf_X11_checkPut tw_1034 (Nat.le_of_ble_eq_true rfl) (Nat.le_of_ble_eq_true rfl) hl.1 (Nat.le_of_ble_eq_true rfl) dX11_go_2 ⟨Nat.le_of_ble_eq_true rfl, Nat.le_of_ble_eq_true rfl⟩ (x_thx ht1) (Nat.le_of_ble_eq_true rfl) (Nat.le_of_ble_eq_true rfl) (fun hs1 H locs hR hS => ?_)
  have hf := hf () hs1
  refine lv_aload_n hx hb dX11_go_5 rfl (lv_at hl 0 rfl) ?_
  refine lv_iload_n hx hb dX11_go_6 rfl (lv_at hl 2 rfl) ?_
  obtain ⟨s2_, h2, eh2, ht2, hf⟩ := x_xbd hf
  refine x_xVv1 C hR hS (S_X11_checkSeconds hst eh2) (x_k hR 0 rfl) (by decide) rfl mf_X11_checkSeconds tw_995 (Nat.le_of_ble_eq_true rfl) (Nat.le_of_ble_eq_true rfl) hl.1 (Nat.le_of_ble_eq_true rfl) dX11_go_7 ⟨Nat.le_of_ble_eq_true rfl, Nat.le_of_ble_eq_true rfl⟩ (x_thx ht2) (Nat.le_of_ble_eq_true rfl) (Nat.le_of_ble_eq_true rfl) (fun hs2 H locs hR hS => ?_)
  have hf := hf () hs2
  refine lv_aload_n hx hb dX11_go_10 rfl (lv_at hl 0 rfl) ?_
  refine gf_11_1 C hR (x_k hR 0 rfl) tw_496 dX11_go_11 ?_
  refine gf_7_5 C hR (x_k hR 9 rfl) tw_305 dX11_go_14 ?_
  refine lv_iload_n hx hb dX11_go_17 rfl (lv_at hl 1 rfl) ?_
  obtain ⟨g3, hf⟩ := x_gd hf
  refine x_paald C hR (x_k1 (x_k hR 13 rfl)) (x_k2 (x_k hR 13 rfl) g3) dX11_go_18 ?_
  refine lv_astore_n (lv' := [(3, _), (0, _), (1, _), (2, _)]) hx hb dX11_go_19 rfl hl (Nat.le_of_ble_eq_true rfl) rfl (fun ls hl => ?_)
  refine lv_aload_n hx hb dX11_go_20 rfl (lv_at hl 0 rfl) ?_
  obtain ⟨v_4, ev_4, hf⟩ := x_bd hf
  refine x_cVi0 C hR hS (S_X2_places (x_kP hR (x_k hR 13 rfl) g3) ev_4) (x_kP hR (x_k hR 13 rfl) g3) (by decide) rfl mf_X2_places tw_1039 (Nat.le_of_ble_eq_true rfl) (Nat.le_of_ble_eq_true rfl) hl.1 (Nat.le_of_ble_eq_true rfl) dX11_go_21 ⟨Nat.le_of_ble_eq_true rfl, Nat.le_of_ble_eq_true rfl⟩ (fun H locs hR hS => ?_)
  refine lv_iload_n hx hb dX11_go_24 rfl (lv_at hl 3 rfl) ?_
  refine lv_imul hx hb dX11_go_25 ?_
  refine lv_istore (lv' := [(4, _), (3, _), (0, _), (1, _), (2, _)]) hx hb dX11_go_26 hl (Nat.le_of_ble_eq_true rfl) rfl (fun ls hl => ?_)
  refine lv_aload_n hx hb dX11_go_28 rfl (lv_at hl 2 rfl) ?_
  refine lv_iload hx hb dX11_go_29 (lv_at hl 0 rfl) ?_
  obtain ⟨s5_, h5, eh5, ht5, hf⟩ := x_xbd hf
  refine x_xVv1 C hR hS (S_X11_checkClock hst eh5) (x_k hR 0 rfl) (by decide) rfl mf_X11_checkClock tw_1005 (Nat.le_of_ble_eq_true rfl) (Nat.le_of_ble_eq_true rfl) hl.1 (Nat.le_of_ble_eq_true rfl) dX11_go_31 ⟨Nat.le_of_ble_eq_true rfl, Nat.le_of_ble_eq_true rfl⟩ (x_thx ht5) (Nat.le_of_ble_eq_true rfl) (Nat.le_of_ble_eq_true rfl) (fun hs5 H locs hR hS => ?_)
  have hf := hf () hs5
  refine lv_aload_n hx hb dX11_go_34 rfl (lv_at hl 1 rfl) ?_
  refine gf_2_4 C hR (x_kP hR (x_k hR 13 rfl) g3) tw_266 dX11_go_35 ?_
  refine lv_aload_n hx hb dX11_go_38 rfl (lv_at hl 2 rfl) ?_
  refine gf_11_1 C hR (x_k hR 0 rfl) tw_496 dX11_go_39 ?_
  refine gf_7_7 C hR (x_k hR 9 rfl) tw_312 dX11_go_42 ?_
  refine lv_iload_n hx hb dX11_go_45 rfl (lv_at hl 4 rfl) ?_
  obtain ⟨h6, eh6, hf⟩ := x_lt hf
  refine x_cVv2 C hR hS (S_X4_touchFrom (kf_2_1 hR (x_kP hR (x_k hR 13 rfl) g3)) eh6.symm) (kf_2_1 hR (x_kP hR (x_k hR 13 rfl) g3)) (by decide) rfl mf_X4_touchFrom tw_1015 (Nat.le_of_ble_eq_true rfl) (Nat.le_of_ble_eq_true rfl) hl.1 (Nat.le_of_ble_eq_true rfl) dX11_go_46 ⟨Nat.le_of_ble_eq_true rfl, Nat.le_of_ble_eq_true rfl⟩ (fun H locs hR hS => ?_)
  refine lv_aload_n hx hb dX11_go_49 rfl (lv_at hl 1 rfl) ?_
  refine gf_2_4 C hR (x_kP hR (x_k hR 13 rfl) g3) tw_266 dX11_go_50 ?_
  refine lv_dup hx hb dX11_go_53 rfl ?_
  refine gf_4_4 C hR (kf_2_1 hR (x_kP hR (x_k hR 13 rfl) g3)) tw_226 dX11_go_54 ?_
  refine lv_iconst (v := 1) hx hb dX11_go_57 rfl ?_
  refine lv_iadd hx hb dX11_go_58 ?_
  obtain ⟨h7, eh7, hf⟩ := x_lt hf
  refine pf_4_4 C hR hS (kf_2_1 hR (x_kP hR (x_k hR 13 rfl) g3)) tw_226 dX11_go_59 (fun H locs hR hS => ?_)
  rw [← eh7] at hR
  refine lv_aload_n hx hb dX11_go_62 rfl (lv_at hl 2 rfl) ?_
  refine gf_11_1 C hR (x_k hR 0 rfl) tw_496 dX11_go_63 ?_
  refine lv_dup hx hb dX11_go_66 rfl ?_
  refine gf_7_7 C hR (x_k hR 9 rfl) tw_312 dX11_go_67 ?_
  refine lv_iload hx hb dX11_go_70 (lv_at hl 0 rfl) ?_
  refine lv_iadd hx hb dX11_go_72 ?_
  obtain ⟨h8, eh8, hf⟩ := x_lt hf
  refine pf_7_7 C hR hS (x_k hR 9 rfl) tw_312 dX11_go_73 (fun H locs hR hS => ?_)
  rw [← eh8] at hR
  refine lv_aload_n hx hb dX11_go_76 rfl (lv_at hl 1 rfl) ?_
  refine gf_2_4 C hR (x_kP hR (x_k hR 13 rfl) g3) tw_266 dX11_go_77 ?_
  refine gf_4_4 C hR (kf_2_1 hR (x_kP hR (x_k hR 13 rfl) g3)) tw_226 dX11_go_80 ?_
  cases hf
  exact xx_iret C hR hS (Nat.le_of_ble_eq_true rfl) (Nat.le_of_ble_eq_true rfl) dX11_go_83
def f_X11_about (x : Nat) (h : XH) (v1 : Int32) (v2 : Int32) (v3 : Int32) : Option ((Nat ⊕ Int32) × XH) := x_xb (f_X11_checkPlaceIn x h v1 v2) (fun _ h1 => x_xb (f_X11_checkPut x h1 v1) (fun _ h2 => if x_b v1 8 = true then Option.bind (f_X2_placeOf ((x + 13) + 6 + 3 * v1.toNatClampNeg) h2 v2) (fun v_4 => Option.bind (f_X2_roleOf ((x + 13) + 6 + 3 * v1.toNatClampNeg) h2 v2) (fun v_5 => if v3 = 0 then some (.inr v_4, h2) else if v3 = 1 then some (.inr ((h2.1 (((x + 13) + 6 + 3 * v1.toNatClampNeg) + 1) 1) + v_4), h2) else if v3 = 2 then some (.inr v_5, h2) else if v3 = 3 then some (.inr (f_X4_ageOf (((x + 13) + 6 + 3 * v1.toNatClampNeg) + 1) h2 v_4 (h2.1 (x + 9) 7)), h2) else if v3 = 4 then Option.bind (f_X5_oldAt x h2 v1 (((x + 13) + 6 + 3 * v1.toNatClampNeg) + 1) ((h2.1 (((x + 13) + 6 + 3 * v1.toNatClampNeg) + 1) 1) + v_4)) (fun v_6 => some (.inr v_6, h2)) else if v3 = 5 then Option.bind (f_X5_likeAt x h2 ((x + 13) + 6 + 3 * v1.toNatClampNeg) (((x + 13) + 6 + 3 * v1.toNatClampNeg) + 1) v_4) (fun v_7 => some (.inr v_7, h2)) else if v3 = 6 then if x_b (((f_X2_cardAt ((x + 13) + 6 + 3 * v1.toNatClampNeg) h2 v2) * 3) + v_5) 156 = true then some (.inr (h2.1 (x + 10) (((f_X2_cardAt ((x + 13) + 6 + 3 * v1.toNatClampNeg) h2 v2) * 3) + v_5).toNatClampNeg), h2) else none else if v3 = 7 then if x_b v2 52 = true then some (.inr (h2.1 (((x + 13) + 6 + 3 * v1.toNatClampNeg) + 2) v2.toNatClampNeg), h2) else none else some (.inl 4, h2))) else none))
set_option maxRecDepth 20000 in
theorem S_X11_about {l : Launch} {O : XO} {K : XK} {h : XH} {v1 : Int32} {v2 : Int32} {v3 : Int32}  {r : Nat ⊕ Int32} {h' : XH} (hst : l.stackTraces = false) (hf : f_X11_about (oX O) h v1 v2 v3 = some (r, h')) : x_MX l O K yX11_about cX11_about 7 (some .int) 8 133 5 30 h [.ref (oX O), .int v1, .int v2, .int v3] (x_rv x_gi r) h' := by
  refine x_enterX (by decide) (Nat.le_of_ble_eq_true rfl) (fun p e s m args below meth c C hR ls hl => ?_)
  have hS : va_S (oA O) s.heap s.heap [] := va_S.rf
  have hx := C.1
  have hb := C.2.1
  have hl : lv_has ls 7 [(0, .ref (oX O)), (1, .int v1), (2, .int v2), (3, .int v3)] := hl
  rw [f_X11_about] at hf
  refine lv_aload_n hx hb dX11_about_0 rfl (lv_at hl 0 rfl) ?_
  refine lv_iload_n hx hb dX11_about_1 rfl (lv_at hl 1 rfl) ?_
  refine lv_iload_n hx hb dX11_about_2 rfl (lv_at hl 2 rfl) ?_
  obtain ⟨s1_, h1, eh1, ht1, hf⟩ := x_xbd hf
  refine x_xVv2 C hR hS (S_X11_checkPlaceIn hst eh1) (x_k hR 0 rfl) (by decide) rfl mf_X11_checkPlaceIn tw_955 (Nat.le_of_ble_eq_true rfl) (Nat.le_of_ble_eq_true rfl) hl.1 (Nat.le_of_ble_eq_true rfl) dX11_about_3 ⟨Nat.le_of_ble_eq_true rfl, Nat.le_of_ble_eq_true rfl⟩ (x_thx ht1) (Nat.le_of_ble_eq_true rfl) (Nat.le_of_ble_eq_true rfl) (fun hs1 H locs hR hS => ?_)
  have hf := hf () hs1
  refine lv_aload_n hx hb dX11_about_6 rfl (lv_at hl 0 rfl) ?_
  refine lv_iload_n hx hb dX11_about_7 rfl (lv_at hl 1 rfl) ?_
  obtain ⟨s2_, h2, eh2, ht2, hf⟩ := x_xbd hf
  refine x_xVv1 C hR hS (S_X11_checkPut hst eh2) (x_k hR 0 rfl) (by decide) rfl mf_X11_checkPut tw_1034 (Nat.le_of_ble_eq_true rfl) (Nat.le_of_ble_eq_true rfl) hl.1 (Nat.le_of_ble_eq_true rfl) dX11_about_8 ⟨Nat.le_of_ble_eq_true rfl, Nat.le_of_ble_eq_true rfl⟩ (x_thx ht2) (Nat.le_of_ble_eq_true rfl) (Nat.le_of_ble_eq_true rfl) (fun hs2 H locs hR hS => ?_)
  have hf := hf () hs2
  refine lv_aload_n hx hb dX11_about_11 rfl (lv_at hl 0 rfl) ?_
  refine gf_11_1 C hR (x_k hR 0 rfl) tw_496 dX11_about_12 ?_
  refine gf_7_5 C hR (x_k hR 9 rfl) tw_305 dX11_about_15 ?_
  refine lv_iload_n hx hb dX11_about_18 rfl (lv_at hl 1 rfl) ?_
  obtain ⟨g3, hf⟩ := x_gd hf
  refine x_paald C hR (x_k1 (x_k hR 13 rfl)) (x_k2 (x_k hR 13 rfl) g3) dX11_about_19 ?_
  refine lv_astore (lv' := [(4, _), (0, _), (1, _), (2, _), (3, _)]) hx hb dX11_about_20 hl (Nat.le_of_ble_eq_true rfl) rfl (fun ls hl => ?_)
  refine lv_aload hx hb dX11_about_22 (lv_at hl 0 rfl) ?_
  refine lv_iload_n hx hb dX11_about_24 rfl (lv_at hl 3 rfl) ?_
  obtain ⟨v_4, ev_4, hf⟩ := x_bd hf
  refine x_cVi1 C hR hS (S_X2_placeOf (x_kP hR (x_k hR 13 rfl) g3) ev_4) (x_kP hR (x_k hR 13 rfl) g3) (by decide) rfl mf_X2_placeOf tw_1052 (Nat.le_of_ble_eq_true rfl) (Nat.le_of_ble_eq_true rfl) hl.1 (Nat.le_of_ble_eq_true rfl) dX11_about_25 ⟨Nat.le_of_ble_eq_true rfl, Nat.le_of_ble_eq_true rfl⟩ (fun H locs hR hS => ?_)
  refine lv_istore (lv' := [(5, _), (4, _), (0, _), (1, _), (2, _), (3, _)]) hx hb dX11_about_28 hl (Nat.le_of_ble_eq_true rfl) rfl (fun ls hl => ?_)
  refine lv_aload hx hb dX11_about_30 (lv_at hl 1 rfl) ?_
  refine lv_iload_n hx hb dX11_about_32 rfl (lv_at hl 4 rfl) ?_
  obtain ⟨v_5, ev_5, hf⟩ := x_bd hf
  refine x_cVi1 C hR hS (S_X2_roleOf (x_kP hR (x_k hR 13 rfl) g3) ev_5) (x_kP hR (x_k hR 13 rfl) g3) (by decide) rfl mf_X2_roleOf tw_1056 (Nat.le_of_ble_eq_true rfl) (Nat.le_of_ble_eq_true rfl) hl.1 (Nat.le_of_ble_eq_true rfl) dX11_about_33 ⟨Nat.le_of_ble_eq_true rfl, Nat.le_of_ble_eq_true rfl⟩ (fun H locs hR hS => ?_)
  refine lv_istore (lv' := [(6, _), (5, _), (4, _), (0, _), (1, _), (2, _), (3, _)]) hx hb dX11_about_36 hl (Nat.le_of_ble_eq_true rfl) rfl (fun ls hl => ?_)
  refine lv_iload_n hx hb dX11_about_38 rfl (lv_at hl 6 rfl) ?_
  by_cases hc0 : v3 = 0
  · have hf := x_ip hc0 hf
    refine lv_tableIn (tgt := 84) hx hb dX11_about_39 (by rw [hc0]; decide) (by rw [hc0]; decide) (by rw [hc0] <;> rfl) rfl ?_
    refine lv_iload hx hb dX11_about_84 (lv_at hl 1 rfl) ?_
    cases hf
    exact xx_iret C hR hS (Nat.le_of_ble_eq_true rfl) (Nat.le_of_ble_eq_true rfl) dX11_about_86
  · have hf := x_in hc0 hf
    by_cases hc1 : v3 = 1
    · have hf := x_ip hc1 hf
      refine lv_tableIn (tgt := 87) hx hb dX11_about_39 (by rw [hc1]; decide) (by rw [hc1]; decide) (by rw [hc1] <;> rfl) rfl ?_
      refine lv_aload hx hb dX11_about_87 (lv_at hl 2 rfl) ?_
      refine gf_2_4 C hR (x_kP hR (x_k hR 13 rfl) g3) tw_266 dX11_about_89 ?_
      refine gf_4_1 C hR (kf_2_1 hR (x_kP hR (x_k hR 13 rfl) g3)) tw_218 dX11_about_92 ?_
      refine lv_iload hx hb dX11_about_95 (lv_at hl 1 rfl) ?_
      refine lv_iadd hx hb dX11_about_97 ?_
      cases hf
      exact xx_iret C hR hS (Nat.le_of_ble_eq_true rfl) (Nat.le_of_ble_eq_true rfl) dX11_about_98
    · have hf := x_in hc1 hf
      by_cases hc2 : v3 = 2
      · have hf := x_ip hc2 hf
        refine lv_tableIn (tgt := 99) hx hb dX11_about_39 (by rw [hc2]; decide) (by rw [hc2]; decide) (by rw [hc2] <;> rfl) rfl ?_
        refine lv_iload hx hb dX11_about_99 (lv_at hl 0 rfl) ?_
        cases hf
        exact xx_iret C hR hS (Nat.le_of_ble_eq_true rfl) (Nat.le_of_ble_eq_true rfl) dX11_about_101
      · have hf := x_in hc2 hf
        by_cases hc3 : v3 = 3
        · have hf := x_ip hc3 hf
          refine lv_tableIn (tgt := 102) hx hb dX11_about_39 (by rw [hc3]; decide) (by rw [hc3]; decide) (by rw [hc3] <;> rfl) rfl ?_
          refine lv_aload hx hb dX11_about_102 (lv_at hl 2 rfl) ?_
          refine gf_2_4 C hR (x_kP hR (x_k hR 13 rfl) g3) tw_266 dX11_about_104 ?_
          refine lv_iload hx hb dX11_about_107 (lv_at hl 1 rfl) ?_
          refine lv_aload_n hx hb dX11_about_109 rfl (lv_at hl 3 rfl) ?_
          refine gf_11_1 C hR (x_k hR 0 rfl) tw_496 dX11_about_110 ?_
          refine gf_7_7 C hR (x_k hR 9 rfl) tw_312 dX11_about_113 ?_
          refine x_cVi2 C hR hS (S_X4_ageOf (kf_2_1 hR (x_kP hR (x_k hR 13 rfl) g3)) rfl) (kf_2_1 hR (x_kP hR (x_k hR 13 rfl) g3)) (by decide) rfl mf_X4_ageOf tw_1061 (Nat.le_of_ble_eq_true rfl) (Nat.le_of_ble_eq_true rfl) hl.1 (Nat.le_of_ble_eq_true rfl) dX11_about_116 ⟨Nat.le_of_ble_eq_true rfl, Nat.le_of_ble_eq_true rfl⟩ (fun H locs hR hS => ?_)
          cases hf
          exact xx_iret C hR hS (Nat.le_of_ble_eq_true rfl) (Nat.le_of_ble_eq_true rfl) dX11_about_119
        · have hf := x_in hc3 hf
          by_cases hc4 : v3 = 4
          · have hf := x_ip hc4 hf
            refine lv_tableIn (tgt := 120) hx hb dX11_about_39 (by rw [hc4]; decide) (by rw [hc4]; decide) (by rw [hc4] <;> rfl) rfl ?_
            refine lv_aload_n hx hb dX11_about_120 rfl (lv_at hl 3 rfl) ?_
            refine gf_11_3 C hR (x_k hR 0 rfl) tw_498 dX11_about_121 ?_
            refine lv_iload_n hx hb dX11_about_124 rfl (lv_at hl 4 rfl) ?_
            refine lv_aload hx hb dX11_about_125 (lv_at hl 2 rfl) ?_
            refine gf_2_4 C hR (x_kP hR (x_k hR 13 rfl) g3) tw_266 dX11_about_127 ?_
            refine lv_aload hx hb dX11_about_130 (lv_at hl 2 rfl) ?_
            refine gf_2_4 C hR (x_kP hR (x_k hR 13 rfl) g3) tw_266 dX11_about_132 ?_
            refine gf_4_1 C hR (kf_2_1 hR (x_kP hR (x_k hR 13 rfl) g3)) tw_218 dX11_about_135 ?_
            refine lv_iload hx hb dX11_about_138 (lv_at hl 1 rfl) ?_
            refine lv_iadd hx hb dX11_about_140 ?_
            obtain ⟨v_6, ev_6, hf⟩ := x_bd hf
            refine x_cVi3 C hR hS (S_X5_oldAt (kf_2_1 hR (x_kP hR (x_k hR 13 rfl) g3)) ev_6) (x_k hR 46 rfl) (by decide) rfl mf_X5_oldAt tw_1065 (Nat.le_of_ble_eq_true rfl) (Nat.le_of_ble_eq_true rfl) hl.1 (Nat.le_of_ble_eq_true rfl) dX11_about_141 ⟨Nat.le_of_ble_eq_true rfl, Nat.le_of_ble_eq_true rfl⟩ (fun H locs hR hS => ?_)
            cases hf
            exact xx_iret C hR hS (Nat.le_of_ble_eq_true rfl) (Nat.le_of_ble_eq_true rfl) dX11_about_144
          · have hf := x_in hc4 hf
            by_cases hc5 : v3 = 5
            · have hf := x_ip hc5 hf
              refine lv_tableIn (tgt := 145) hx hb dX11_about_39 (by rw [hc5]; decide) (by rw [hc5]; decide) (by rw [hc5] <;> rfl) rfl ?_
              refine lv_aload_n hx hb dX11_about_145 rfl (lv_at hl 3 rfl) ?_
              refine gf_11_3 C hR (x_k hR 0 rfl) tw_498 dX11_about_146 ?_
              refine lv_aload hx hb dX11_about_149 (lv_at hl 2 rfl) ?_
              refine lv_aload hx hb dX11_about_151 (lv_at hl 2 rfl) ?_
              refine gf_2_4 C hR (x_kP hR (x_k hR 13 rfl) g3) tw_266 dX11_about_153 ?_
              refine lv_iload hx hb dX11_about_156 (lv_at hl 1 rfl) ?_
              obtain ⟨v_7, ev_7, hf⟩ := x_bd hf
              refine x_cVi3 C hR hS (S_X5_likeAt (x_kP hR (x_k hR 13 rfl) g3) (kf_2_1 hR (x_kP hR (x_k hR 13 rfl) g3)) ev_7) (x_k hR 46 rfl) (by decide) rfl mf_X5_likeAt tw_1073 (Nat.le_of_ble_eq_true rfl) (Nat.le_of_ble_eq_true rfl) hl.1 (Nat.le_of_ble_eq_true rfl) dX11_about_158 ⟨Nat.le_of_ble_eq_true rfl, Nat.le_of_ble_eq_true rfl⟩ (fun H locs hR hS => ?_)
              cases hf
              exact xx_iret C hR hS (Nat.le_of_ble_eq_true rfl) (Nat.le_of_ble_eq_true rfl) dX11_about_161
            · have hf := x_in hc5 hf
              by_cases hc6 : v3 = 6
              · have hf := x_ip hc6 hf
                refine lv_tableIn (tgt := 162) hx hb dX11_about_39 (by rw [hc6]; decide) (by rw [hc6]; decide) (by rw [hc6] <;> rfl) rfl ?_
                refine lv_aload_n hx hb dX11_about_162 rfl (lv_at hl 3 rfl) ?_
                refine gf_11_1 C hR (x_k hR 0 rfl) tw_496 dX11_about_163 ?_
                refine gf_7_0 C hR (x_k hR 9 rfl) tw_288 dX11_about_166 ?_
                refine lv_aload hx hb dX11_about_169 (lv_at hl 2 rfl) ?_
                refine lv_iload_n hx hb dX11_about_171 rfl (lv_at hl 5 rfl) ?_
                refine x_cVi1 C hR hS (S_X2_cardAt (x_kP hR (x_k hR 13 rfl) g3) rfl) (x_kP hR (x_k hR 13 rfl) g3) (by decide) rfl mf_X2_cardAt tw_965 (Nat.le_of_ble_eq_true rfl) (Nat.le_of_ble_eq_true rfl) hl.1 (Nat.le_of_ble_eq_true rfl) dX11_about_172 ⟨Nat.le_of_ble_eq_true rfl, Nat.le_of_ble_eq_true rfl⟩ (fun H locs hR hS => ?_)
                refine lv_iconst (v := 3) hx hb dX11_about_175 rfl ?_
                refine lv_imul hx hb dX11_about_176 ?_
                refine lv_iload hx hb dX11_about_177 (lv_at hl 0 rfl) ?_
                refine lv_iadd hx hb dX11_about_179 ?_
                obtain ⟨g8, hf⟩ := x_gd hf
                refine x_iald C hR (x_k1 (x_k hR 10 rfl)) (x_k2 (x_k hR 10 rfl) g8) dX11_about_180 ?_
                cases hf
                exact xx_iret C hR hS (Nat.le_of_ble_eq_true rfl) (Nat.le_of_ble_eq_true rfl) dX11_about_181
              · have hf := x_in hc6 hf
                by_cases hc7 : v3 = 7
                · have hf := x_ip hc7 hf
                  refine lv_tableIn (tgt := 182) hx hb dX11_about_39 (by rw [hc7]; decide) (by rw [hc7]; decide) (by rw [hc7] <;> rfl) rfl ?_
                  refine lv_aload hx hb dX11_about_182 (lv_at hl 2 rfl) ?_
                  refine gf_2_5 C hR (x_kP hR (x_k hR 13 rfl) g3) tw_271 dX11_about_184 ?_
                  refine lv_iload_n hx hb dX11_about_187 rfl (lv_at hl 5 rfl) ?_
                  obtain ⟨g9, hf⟩ := x_gd hf
                  refine x_iald C hR (x_k1 (kf_2_2 hR (x_kP hR (x_k hR 13 rfl) g3))) (x_k2 (kf_2_2 hR (x_kP hR (x_k hR 13 rfl) g3)) g9) dX11_about_188 ?_
                  cases hf
                  exact xx_iret C hR hS (Nat.le_of_ble_eq_true rfl) (Nat.le_of_ble_eq_true rfl) dX11_about_189
                · have hf := x_in hc7 hf
                  refine lv_tableOut (tgt := 190) hx hb dX11_about_39 (x_tab v3 (fun z h1 h2 => ?_)) rfl ?_
                  · have hz : z = 0 ∨ z = 1 ∨ z = 2 ∨ z = 3 ∨ z = 4 ∨ z = 5 ∨ z = 6 ∨ z = 7 := by omega
                    rcases hz with rfl | rfl | rfl | rfl | rfl | rfl | rfl | rfl
                    · exact hc0
                    · exact hc1
                    · exact hc2
                    · exact hc3
                    · exact hc4
                    · exact hc5
                    · exact hc6
                    · exact hc7
                  · cases hf
                    exact x_thr4W tf_4 C hR hS hst hl.1 (xs_27 C) dX11_about_190 dX11_about_193 dX11_about_194 dX11_about_197 dX11_about_200 (Nat.le_of_ble_eq_true rfl) (by decide) (Nat.le_of_ble_eq_true rfl) (Nat.le_of_ble_eq_true rfl) (Nat.le_of_ble_eq_true rfl) (Nat.le_of_ble_eq_true rfl)
def f_X11_holds (K : XK) (x : Nat) (h : XH) (v1 : Int32) (v2 : Int32) (v3 : Int32) : Option ((Nat ⊕ Int32) × XH) := x_xb (f_X11_checkLaw x h v1) (fun _ h1 => x_xb (f_X11_checkPlaceIn x h1 v2 v3) (fun _ h2 => x_xb (f_X11_checkPut x h2 v2) (fun _ h3 => if x_b v1 3 = true then Option.bind (f_X5_heldNow K x h3 (h3.2.2 (x + 14) v1.toNatClampNeg) v2 v3) (fun q5 => some (.inr q5.1, q5.2)) else none)))
set_option maxRecDepth 20000 in
theorem S_X11_holds {l : Launch} {O : XO} {K : XK} {h : XH} {v1 : Int32} {v2 : Int32} {v3 : Int32}  {r : Nat ⊕ Int32} {h' : XH} (hst : l.stackTraces = false) (hf : f_X11_holds K (oX O) h v1 v2 v3 = some (r, h')) : x_MX l O K yX11_holds cX11_holds 4 (some .int) 8 133 5 30 h [.ref (oX O), .int v1, .int v2, .int v3] (x_rv x_gi r) h' := by
  refine x_enterX (by decide) (Nat.le_of_ble_eq_true rfl) (fun p e s m args below meth c C hR ls hl => ?_)
  have hS : va_S (oA O) s.heap s.heap [] := va_S.rf
  have hx := C.1
  have hb := C.2.1
  have hl : lv_has ls 4 [(0, .ref (oX O)), (1, .int v1), (2, .int v2), (3, .int v3)] := hl
  rw [f_X11_holds] at hf
  refine lv_aload_n hx hb dX11_holds_0 rfl (lv_at hl 0 rfl) ?_
  refine lv_iload_n hx hb dX11_holds_1 rfl (lv_at hl 1 rfl) ?_
  obtain ⟨s1_, h1, eh1, ht1, hf⟩ := x_xbd hf
  refine x_xVv1 C hR hS (S_X11_checkLaw hst eh1) (x_k hR 0 rfl) (by decide) rfl mf_X11_checkLaw tw_1102 (Nat.le_of_ble_eq_true rfl) (Nat.le_of_ble_eq_true rfl) hl.1 (Nat.le_of_ble_eq_true rfl) dX11_holds_2 ⟨Nat.le_of_ble_eq_true rfl, Nat.le_of_ble_eq_true rfl⟩ (x_thx ht1) (Nat.le_of_ble_eq_true rfl) (Nat.le_of_ble_eq_true rfl) (fun hs1 H locs hR hS => ?_)
  have hf := hf () hs1
  refine lv_aload_n hx hb dX11_holds_5 rfl (lv_at hl 0 rfl) ?_
  refine lv_iload_n hx hb dX11_holds_6 rfl (lv_at hl 2 rfl) ?_
  refine lv_iload_n hx hb dX11_holds_7 rfl (lv_at hl 3 rfl) ?_
  obtain ⟨s2_, h2, eh2, ht2, hf⟩ := x_xbd hf
  refine x_xVv2 C hR hS (S_X11_checkPlaceIn hst eh2) (x_k hR 0 rfl) (by decide) rfl mf_X11_checkPlaceIn tw_955 (Nat.le_of_ble_eq_true rfl) (Nat.le_of_ble_eq_true rfl) hl.1 (Nat.le_of_ble_eq_true rfl) dX11_holds_8 ⟨Nat.le_of_ble_eq_true rfl, Nat.le_of_ble_eq_true rfl⟩ (x_thx ht2) (Nat.le_of_ble_eq_true rfl) (Nat.le_of_ble_eq_true rfl) (fun hs2 H locs hR hS => ?_)
  have hf := hf () hs2
  refine lv_aload_n hx hb dX11_holds_11 rfl (lv_at hl 0 rfl) ?_
  refine lv_iload_n hx hb dX11_holds_12 rfl (lv_at hl 2 rfl) ?_
  obtain ⟨s3_, h3, eh3, ht3, hf⟩ := x_xbd hf
  refine x_xVv1 C hR hS (S_X11_checkPut hst eh3) (x_k hR 0 rfl) (by decide) rfl mf_X11_checkPut tw_1034 (Nat.le_of_ble_eq_true rfl) (Nat.le_of_ble_eq_true rfl) hl.1 (Nat.le_of_ble_eq_true rfl) dX11_holds_13 ⟨Nat.le_of_ble_eq_true rfl, Nat.le_of_ble_eq_true rfl⟩ (x_thx ht3) (Nat.le_of_ble_eq_true rfl) (Nat.le_of_ble_eq_true rfl) (fun hs3 H locs hR hS => ?_)
  have hf := hf () hs3
  refine lv_aload_n hx hb dX11_holds_16 rfl (lv_at hl 0 rfl) ?_
  refine gf_11_3 C hR (x_k hR 0 rfl) tw_498 dX11_holds_17 ?_
  refine lv_aload_n hx hb dX11_holds_20 rfl (lv_at hl 0 rfl) ?_
  refine gf_11_1 C hR (x_k hR 0 rfl) tw_496 dX11_holds_21 ?_
  refine gf_7_9 C hR (x_k hR 9 rfl) tw_316 dX11_holds_24 ?_
  refine lv_iload_n hx hb dX11_holds_27 rfl (lv_at hl 1 rfl) ?_
  obtain ⟨g4, hf⟩ := x_gd hf
  refine x_taald C hR (x_k1 (x_k hR 14 rfl)) (x_k2 (x_k hR 14 rfl) g4) dX11_holds_28 ?_
  refine lv_iload_n hx hb dX11_holds_29 rfl (lv_at hl 2 rfl) ?_
  refine lv_iload_n hx hb dX11_holds_30 rfl (lv_at hl 3 rfl) ?_
  obtain ⟨q5, eq5, hf⟩ := x_bd hf
  refine x_cVi3 C hR hS (S_X5_heldNow (x_kT hR (x_k hR 14 rfl)) eq5) (x_k hR 46 rfl) (by decide) rfl mf_X5_heldNow tw_1107 (Nat.le_of_ble_eq_true rfl) (Nat.le_of_ble_eq_true rfl) hl.1 (Nat.le_of_ble_eq_true rfl) dX11_holds_31 ⟨Nat.le_of_ble_eq_true rfl, Nat.le_of_ble_eq_true rfl⟩ (fun H locs hR hS => ?_)
  cases hf
  exact xx_iret C hR hS (Nat.le_of_ble_eq_true rfl) (Nat.le_of_ble_eq_true rfl) dX11_holds_34
def f_X11_awaited (K : XK) (x : Nat) (h : XH) (v1 : Int32) (v2 : Int32) : Option ((Nat ⊕ Int32) × XH) := x_xb (f_X11_checkLaw x h v1) (fun _ h1 => x_xb (f_X11_checkPut x h1 v2) (fun _ h2 => if x_b v1 3 = true then Option.bind (f_X5_sumAt K x h2 (h2.2.2 (x + 14) v1.toNatClampNeg) v2 (h2.1 (x + 9) 7)) (fun q4 => some (.inr q4.1, q4.2)) else none))
set_option maxRecDepth 20000 in
theorem S_X11_awaited {l : Launch} {O : XO} {K : XK} {h : XH} {v1 : Int32} {v2 : Int32}  {r : Nat ⊕ Int32} {h' : XH} (hst : l.stackTraces = false) (hf : f_X11_awaited K (oX O) h v1 v2 = some (r, h')) : x_MX l O K yX11_awaited cX11_awaited 3 (some .int) 8 153 3 18 h [.ref (oX O), .int v1, .int v2] (x_rv x_gi r) h' := by
  refine x_enterX (by decide) (Nat.le_of_ble_eq_true rfl) (fun p e s m args below meth c C hR ls hl => ?_)
  have hS : va_S (oA O) s.heap s.heap [] := va_S.rf
  have hx := C.1
  have hb := C.2.1
  have hl : lv_has ls 3 [(0, .ref (oX O)), (1, .int v1), (2, .int v2)] := hl
  rw [f_X11_awaited] at hf
  refine lv_aload_n hx hb dX11_awaited_0 rfl (lv_at hl 0 rfl) ?_
  refine lv_iload_n hx hb dX11_awaited_1 rfl (lv_at hl 1 rfl) ?_
  obtain ⟨s1_, h1, eh1, ht1, hf⟩ := x_xbd hf
  refine x_xVv1 C hR hS (S_X11_checkLaw hst eh1) (x_k hR 0 rfl) (by decide) rfl mf_X11_checkLaw tw_1102 (Nat.le_of_ble_eq_true rfl) (Nat.le_of_ble_eq_true rfl) hl.1 (Nat.le_of_ble_eq_true rfl) dX11_awaited_2 ⟨Nat.le_of_ble_eq_true rfl, Nat.le_of_ble_eq_true rfl⟩ (x_thx ht1) (Nat.le_of_ble_eq_true rfl) (Nat.le_of_ble_eq_true rfl) (fun hs1 H locs hR hS => ?_)
  have hf := hf () hs1
  refine lv_aload_n hx hb dX11_awaited_5 rfl (lv_at hl 0 rfl) ?_
  refine lv_iload_n hx hb dX11_awaited_6 rfl (lv_at hl 2 rfl) ?_
  obtain ⟨s2_, h2, eh2, ht2, hf⟩ := x_xbd hf
  refine x_xVv1 C hR hS (S_X11_checkPut hst eh2) (x_k hR 0 rfl) (by decide) rfl mf_X11_checkPut tw_1034 (Nat.le_of_ble_eq_true rfl) (Nat.le_of_ble_eq_true rfl) hl.1 (Nat.le_of_ble_eq_true rfl) dX11_awaited_7 ⟨Nat.le_of_ble_eq_true rfl, Nat.le_of_ble_eq_true rfl⟩ (x_thx ht2) (Nat.le_of_ble_eq_true rfl) (Nat.le_of_ble_eq_true rfl) (fun hs2 H locs hR hS => ?_)
  have hf := hf () hs2
  refine lv_aload_n hx hb dX11_awaited_10 rfl (lv_at hl 0 rfl) ?_
  refine gf_11_3 C hR (x_k hR 0 rfl) tw_498 dX11_awaited_11 ?_
  refine lv_aload_n hx hb dX11_awaited_14 rfl (lv_at hl 0 rfl) ?_
  refine gf_11_1 C hR (x_k hR 0 rfl) tw_496 dX11_awaited_15 ?_
  refine gf_7_9 C hR (x_k hR 9 rfl) tw_316 dX11_awaited_18 ?_
  refine lv_iload_n hx hb dX11_awaited_21 rfl (lv_at hl 1 rfl) ?_
  obtain ⟨g3, hf⟩ := x_gd hf
  refine x_taald C hR (x_k1 (x_k hR 14 rfl)) (x_k2 (x_k hR 14 rfl) g3) dX11_awaited_22 ?_
  refine lv_iload_n hx hb dX11_awaited_23 rfl (lv_at hl 2 rfl) ?_
  refine lv_aload_n hx hb dX11_awaited_24 rfl (lv_at hl 0 rfl) ?_
  refine gf_11_1 C hR (x_k hR 0 rfl) tw_496 dX11_awaited_25 ?_
  refine gf_7_7 C hR (x_k hR 9 rfl) tw_312 dX11_awaited_28 ?_
  obtain ⟨q4, eq4, hf⟩ := x_bd hf
  refine x_cVi3 C hR hS (S_X5_sumAt (x_kT hR (x_k hR 14 rfl)) eq4) (x_k hR 46 rfl) (by decide) rfl mf_X5_sumAt tw_1145 (Nat.le_of_ble_eq_true rfl) (Nat.le_of_ble_eq_true rfl) hl.1 (Nat.le_of_ble_eq_true rfl) dX11_awaited_31 ⟨Nat.le_of_ble_eq_true rfl, Nat.le_of_ble_eq_true rfl⟩ (fun H locs hR hS => ?_)
  cases hf
  exact xx_iret C hR hS (Nat.le_of_ble_eq_true rfl) (Nat.le_of_ble_eq_true rfl) dX11_awaited_34
def f_X11_say_17 (x : Nat) (h : XH) : Option ((Nat ⊕ Int32) × XH) := some (.inl 0, h)
def f_X11_say (x : Nat) (h : XH) (v1 : Int32) (v2 : Int32) (v3 : Int32) : Option ((Nat ⊕ Int32) × XH) := x_xb (f_X11_checkPlaceIn x h v1 v2) (fun _ h1 => if v3 < (-1) then f_X11_say_17 x h1 else if v3 < 52 then x_xb (f_X11_checkPut x h1 v1) (fun _ h2 => if x_b v1 8 = true then if x_b v2 52 = true then x_let (x_i h2 (((x + 13) + 6 + 3 * v1.toNatClampNeg) + 2) v2.toNatClampNeg v3) (fun h5 => Option.bind (f_X6_kindOf x h5 v1 v2) (fun q6 => some (.inr q6.1, q6.2))) else none else none) else f_X11_say_17 x h1)
set_option maxRecDepth 20000 in
theorem B_X11_say_17 {p : Program} {l : Launch} {e : Env} {s : State} {m : MethodId} {args : Array Value} {below : List Frame} {meth : Method} {c : Code} {O : XO} {K : XK} {r : Nat ⊕ Int32} {h' : XH}   (C : x_C p s m args meth c O cX11_say 4 RX11 (some .int))   (hst : l.stackTraces = false) (ls : Array Slot) (H : Heap) (locs : List Loc) (h : XH) (hl : lv_has ls 4 []) (hR : x_R O K h H) (hS : va_S (oA O) s.heap H locs) (hf : f_X11_say_17 (oX O) h = some (r, h')) : W p l e (x_rmX 8 133 5 30) s m args below meth c H locs 2 12 (vx_MQ below (x_XQ O K h' (x_rv x_gi r)) (x_XX O K h' (x_rv x_gi r)) args s 5 30 (oA O)) (F0 m 17 ls []) := by
  have hx := C.1
  have hb := C.2.1
  rw [f_X11_say_17] at hf
  cases hf
  exact x_thrW tf_0 C hR hS hst hl.1 (xs_29 C) dX11_say_17 dX11_say_20 dX11_say_21 dX11_say_24 dX11_say_27 (Nat.le_of_ble_eq_true rfl) (by decide) (Nat.le_of_ble_eq_true rfl) (Nat.le_of_ble_eq_true rfl) (Nat.le_of_ble_eq_true rfl) (Nat.le_of_ble_eq_true rfl)
set_option maxRecDepth 20000 in
theorem S_X11_say {l : Launch} {O : XO} {K : XK} {h : XH} {v1 : Int32} {v2 : Int32} {v3 : Int32}  {r : Nat ⊕ Int32} {h' : XH} (hst : l.stackTraces = false) (hf : f_X11_say (oX O) h v1 v2 v3 = some (r, h')) : x_MX l O K yX11_say cX11_say 4 (some .int) 8 133 5 30 h [.ref (oX O), .int v1, .int v2, .int v3] (x_rv x_gi r) h' := by
  refine x_enterX (by decide) (Nat.le_of_ble_eq_true rfl) (fun p e s m args below meth c C hR ls hl => ?_)
  have hS : va_S (oA O) s.heap s.heap [] := va_S.rf
  have hx := C.1
  have hb := C.2.1
  have hl : lv_has ls 4 [(0, .ref (oX O)), (1, .int v1), (2, .int v2), (3, .int v3)] := hl
  rw [f_X11_say] at hf
  refine lv_aload_n hx hb dX11_say_0 rfl (lv_at hl 0 rfl) ?_
  refine lv_iload_n hx hb dX11_say_1 rfl (lv_at hl 1 rfl) ?_
  refine lv_iload_n hx hb dX11_say_2 rfl (lv_at hl 2 rfl) ?_
  obtain ⟨s1_, h1, eh1, ht1, hf⟩ := x_xbd hf
  refine x_xVv2 C hR hS (S_X11_checkPlaceIn hst eh1) (x_k hR 0 rfl) (by decide) rfl mf_X11_checkPlaceIn tw_955 (Nat.le_of_ble_eq_true rfl) (Nat.le_of_ble_eq_true rfl) hl.1 (Nat.le_of_ble_eq_true rfl) dX11_say_3 ⟨Nat.le_of_ble_eq_true rfl, Nat.le_of_ble_eq_true rfl⟩ (x_thx ht1) (Nat.le_of_ble_eq_true rfl) (Nat.le_of_ble_eq_true rfl) (fun hs1 H locs hR hS => ?_)
  have hf := hf () hs1
  refine lv_iload_n hx hb dX11_say_6 rfl (lv_at hl 3 rfl) ?_
  refine lv_iconst (v := (-1)) hx hb dX11_say_7 rfl ?_
  refine lv_icmp_lt (tgt := 17) hx hb dX11_say_8 rfl (fun hc => ?_) (fun hc => ?_)
  · have hf := x_ip hc hf
    exact B_X11_say_17  C  hst  ls _ _ h1  (lv_sub hl [] rfl) hR hS hf
  · have hf := x_in hc hf
    refine lv_iload_n hx hb dX11_say_11 rfl (lv_at hl 3 rfl) ?_
    refine lv_bipush (v := 52) hx hb dX11_say_12 rfl ?_
    refine lv_icmp_lt (tgt := 28) hx hb dX11_say_14 rfl (fun hc => ?_) (fun hc => ?_)
    · have hf := x_ip hc hf
      refine lv_aload_n hx hb dX11_say_28 rfl (lv_at hl 0 rfl) ?_
      refine lv_iload_n hx hb dX11_say_29 rfl (lv_at hl 1 rfl) ?_
      obtain ⟨s2_, h2, eh2, ht2, hf⟩ := x_xbd hf
      refine x_xVv1 C hR hS (S_X11_checkPut hst eh2) (x_k hR 0 rfl) (by decide) rfl mf_X11_checkPut tw_1034 (Nat.le_of_ble_eq_true rfl) (Nat.le_of_ble_eq_true rfl) hl.1 (Nat.le_of_ble_eq_true rfl) dX11_say_30 ⟨Nat.le_of_ble_eq_true rfl, Nat.le_of_ble_eq_true rfl⟩ (x_thx ht2) (Nat.le_of_ble_eq_true rfl) (Nat.le_of_ble_eq_true rfl) (fun hs2 H locs hR hS => ?_)
      have hf := hf () hs2
      refine lv_aload_n hx hb dX11_say_33 rfl (lv_at hl 0 rfl) ?_
      refine gf_11_1 C hR (x_k hR 0 rfl) tw_496 dX11_say_34 ?_
      refine gf_7_5 C hR (x_k hR 9 rfl) tw_305 dX11_say_37 ?_
      refine lv_iload_n hx hb dX11_say_40 rfl (lv_at hl 1 rfl) ?_
      obtain ⟨g3, hf⟩ := x_gd hf
      refine x_paald C hR (x_k1 (x_k hR 13 rfl)) (x_k2 (x_k hR 13 rfl) g3) dX11_say_41 ?_
      refine gf_2_5 C hR (x_kP hR (x_k hR 13 rfl) g3) tw_271 dX11_say_42 ?_
      refine lv_iload_n hx hb dX11_say_45 rfl (lv_at hl 2 rfl) ?_
      refine lv_iload_n hx hb dX11_say_46 rfl (lv_at hl 3 rfl) ?_
      obtain ⟨g4, hf⟩ := x_gd hf
      obtain ⟨h5, eh5, hf⟩ := x_lt hf
      refine x_iast C hR hS (x_k1 (kf_2_2 hR (x_kP hR (x_k hR 13 rfl) g3))) (x_k2 (kf_2_2 hR (x_kP hR (x_k hR 13 rfl) g3)) g4) dX11_say_47 (fun H locs hR hS => ?_)
      rw [← eh5] at hR
      refine lv_aload_n hx hb dX11_say_48 rfl (lv_at hl 0 rfl) ?_
      refine gf_11_4 C hR (x_k hR 0 rfl) tw_499 dX11_say_49 ?_
      refine lv_iload_n hx hb dX11_say_52 rfl (lv_at hl 1 rfl) ?_
      refine lv_iload_n hx hb dX11_say_53 rfl (lv_at hl 2 rfl) ?_
      obtain ⟨q6, eq6, hf⟩ := x_bd hf
      refine x_cVi2 C hR hS (S_X6_kindOf  eq6) (x_k hR 49 rfl) (by decide) rfl mf_X6_kindOf tw_1161 (Nat.le_of_ble_eq_true rfl) (Nat.le_of_ble_eq_true rfl) hl.1 (Nat.le_of_ble_eq_true rfl) dX11_say_54 ⟨Nat.le_of_ble_eq_true rfl, Nat.le_of_ble_eq_true rfl⟩ (fun H locs hR hS => ?_)
      cases hf
      exact xx_iret C hR hS (Nat.le_of_ble_eq_true rfl) (Nat.le_of_ble_eq_true rfl) dX11_say_57
    · have hf := x_in hc hf
      exact B_X11_say_17  C  hst  ls _ _ h1  (lv_sub hl [] rfl) hR hS hf
def f_X11_kind (x : Nat) (h : XH) (v1 : Int32) (v2 : Int32) : Option ((Nat ⊕ Int32) × XH) := x_xb (f_X11_checkPlaceIn x h v1 v2) (fun _ h1 => x_xb (f_X11_checkPut x h1 v1) (fun _ h2 => Option.bind (f_X6_kindOf x h2 v1 v2) (fun q3 => some (.inr q3.1, q3.2))))
set_option maxRecDepth 20000 in
theorem S_X11_kind {l : Launch} {O : XO} {K : XK} {h : XH} {v1 : Int32} {v2 : Int32}  {r : Nat ⊕ Int32} {h' : XH} (hst : l.stackTraces = false) (hf : f_X11_kind (oX O) h v1 v2 = some (r, h')) : x_MX l O K yX11_kind cX11_kind 3 (some .int) 8 133 4 24 h [.ref (oX O), .int v1, .int v2] (x_rv x_gi r) h' := by
  refine x_enterX (by decide) (Nat.le_of_ble_eq_true rfl) (fun p e s m args below meth c C hR ls hl => ?_)
  have hS : va_S (oA O) s.heap s.heap [] := va_S.rf
  have hx := C.1
  have hb := C.2.1
  have hl : lv_has ls 3 [(0, .ref (oX O)), (1, .int v1), (2, .int v2)] := hl
  rw [f_X11_kind] at hf
  refine lv_aload_n hx hb dX11_kind_0 rfl (lv_at hl 0 rfl) ?_
  refine lv_iload_n hx hb dX11_kind_1 rfl (lv_at hl 1 rfl) ?_
  refine lv_iload_n hx hb dX11_kind_2 rfl (lv_at hl 2 rfl) ?_
  obtain ⟨s1_, h1, eh1, ht1, hf⟩ := x_xbd hf
  refine x_xVv2 C hR hS (S_X11_checkPlaceIn hst eh1) (x_k hR 0 rfl) (by decide) rfl mf_X11_checkPlaceIn tw_955 (Nat.le_of_ble_eq_true rfl) (Nat.le_of_ble_eq_true rfl) hl.1 (Nat.le_of_ble_eq_true rfl) dX11_kind_3 ⟨Nat.le_of_ble_eq_true rfl, Nat.le_of_ble_eq_true rfl⟩ (x_thx ht1) (Nat.le_of_ble_eq_true rfl) (Nat.le_of_ble_eq_true rfl) (fun hs1 H locs hR hS => ?_)
  have hf := hf () hs1
  refine lv_aload_n hx hb dX11_kind_6 rfl (lv_at hl 0 rfl) ?_
  refine lv_iload_n hx hb dX11_kind_7 rfl (lv_at hl 1 rfl) ?_
  obtain ⟨s2_, h2, eh2, ht2, hf⟩ := x_xbd hf
  refine x_xVv1 C hR hS (S_X11_checkPut hst eh2) (x_k hR 0 rfl) (by decide) rfl mf_X11_checkPut tw_1034 (Nat.le_of_ble_eq_true rfl) (Nat.le_of_ble_eq_true rfl) hl.1 (Nat.le_of_ble_eq_true rfl) dX11_kind_8 ⟨Nat.le_of_ble_eq_true rfl, Nat.le_of_ble_eq_true rfl⟩ (x_thx ht2) (Nat.le_of_ble_eq_true rfl) (Nat.le_of_ble_eq_true rfl) (fun hs2 H locs hR hS => ?_)
  have hf := hf () hs2
  refine lv_aload_n hx hb dX11_kind_11 rfl (lv_at hl 0 rfl) ?_
  refine gf_11_4 C hR (x_k hR 0 rfl) tw_499 dX11_kind_12 ?_
  refine lv_iload_n hx hb dX11_kind_15 rfl (lv_at hl 1 rfl) ?_
  refine lv_iload_n hx hb dX11_kind_16 rfl (lv_at hl 2 rfl) ?_
  obtain ⟨q3, eq3, hf⟩ := x_bd hf
  refine x_cVi2 C hR hS (S_X6_kindOf  eq3) (x_k hR 49 rfl) (by decide) rfl mf_X6_kindOf tw_1161 (Nat.le_of_ble_eq_true rfl) (Nat.le_of_ble_eq_true rfl) hl.1 (Nat.le_of_ble_eq_true rfl) dX11_kind_17 ⟨Nat.le_of_ble_eq_true rfl, Nat.le_of_ble_eq_true rfl⟩ (fun H locs hR hS => ?_)
  cases hf
  exact xx_iret C hR hS (Nat.le_of_ble_eq_true rfl) (Nat.le_of_ble_eq_true rfl) dX11_kind_20
def f_X11_run_122 (k27 : XH → Int32 → Int32 → Nat → Int32 → Int32 → Option ((Nat ⊕ Int32) × XH)) (K : XK) (x : Nat) (h : XH) (v1 : Int32) (v2 : Int32) (v4 : Nat) (v5 : Int32) (v6 : Int32) : Option ((Nat ⊕ Int32) × XH) := k27 h v1 v2 v4 v5 (v6 + 1)
def f_X11_run_27 (K : XK) (x : Nat) : Nat → XH → Int32 → Int32 → Nat → Int32 → Int32 → Option ((Nat ⊕ Int32) × XH)
  | 0, _, _, _, _, _, _ => none
  | n + 1, h, v1, v2, v4, v5, v6 => if (h.1 v4 2) ≤ v6 then Option.bind (f_X2_rightOnes v4 h) (fun v_4 => some (.inr v_4, h)) else if x_b v1 3 = true then Option.bind (f_X5_heldNow K x h (h.2.2 (x + 14) v1.toNatClampNeg) v2 v6) (fun q6 => if q6.1 ≤ (x_rem (f_X11_drawOf h (f_X11_nextSeed h v5)) 100) then x_let ((f_X11_nextSeed q6.2 (f_X11_nextSeed h v5)) : Int32) (fun t7 => Option.bind (f_X6_drawn x q6.2 v2 v6 (f_X11_drawOf q6.2 t7)) (fun q8 => if x_b v6 52 = true then x_let (x_i q8.2 (v4 + 2) v6.toNatClampNeg q8.1) (fun h10 => f_X11_run_122 (f_X11_run_27 K x n) K x h10 v1 v2 v4 t7 v6) else none)) else if x_b v6 52 = true then x_let (x_i q6.2 (v4 + 2) v6.toNatClampNeg (f_X2_cardAt v4 q6.2 v6)) (fun h12 => f_X11_run_122 (f_X11_run_27 K x n) K x h12 v1 v2 v4 (f_X11_nextSeed h v5) v6) else none) else none
def f_X11_run (K : XK) (x : Nat) (h : XH) (v1 : Int32) (v2 : Int32) (v3 : Int32) : Option ((Nat ⊕ Int32) × XH) := x_xb (f_X11_checkLaw x h v1) (fun _ h1 => x_xb (f_X11_checkPut x h1 v2) (fun _ h2 => if x_b v2 8 = true then f_X11_run_27 K x x_FU h2 v1 v2 ((x + 13) + 6 + 3 * v2.toNatClampNeg) v3 0 else none))
set_option maxRecDepth 20000 in
theorem B_X11_run_122 {p : Program} {l : Launch} {e : Env} {s : State} {m : MethodId} {args : Array Value} {below : List Frame} {meth : Method} {c : Code} {O : XO} {K : XK} {r : Nat ⊕ Int32} {h' : XH}  {k27 : XH → Int32 → Int32 → Nat → Int32 → Int32 → Option ((Nat ⊕ Int32) × XH)} (C : x_C p s m args meth c O cX11_run 7 RX11 (some .int)) (hk27 : ∀ (ls : Array Slot) (H : Heap) (locs : List Loc) (h : XH) (v1 : Int32) (v2 : Int32) (v4 : Nat) (v5 : Int32) (v6 : Int32) (kv4 : K v4 = (3, 0)), lv_has ls 7 [(0, .ref (oX O)), (1, .int v1), (2, .int v2), (4, .ref v4), (5, .int v5), (6, .int v6)] → x_R O K h H → va_S (oA O) s.heap H locs → k27 h v1 v2 v4 v5 v6 = some (r, h') → W p l e (x_rmX 8 132 3 18) s m args below meth c H locs 3 18 (vx_MQ below (x_XQ O K h' (x_rv x_gi r)) (x_XX O K h' (x_rv x_gi r)) args s 3 18 (oA O)) (F0 m 27 ls []))  (hst : l.stackTraces = false) (ls : Array Slot) (H : Heap) (locs : List Loc) (h : XH) (v1 : Int32) (v2 : Int32) (v4 : Nat) (v5 : Int32) (v6 : Int32) (kv4 : K v4 = (3, 0)) (hl : lv_has ls 7 [(0, .ref (oX O)), (1, .int v1), (2, .int v2), (4, .ref v4), (5, .int v5), (6, .int v6)]) (hR : x_R O K h H) (hS : va_S (oA O) s.heap H locs) (hf : f_X11_run_122 k27 K (oX O) h v1 v2 v4 v5 v6 = some (r, h')) : W p l e (x_rmX 8 132 3 18) s m args below meth c H locs 3 18 (vx_MQ below (x_XQ O K h' (x_rv x_gi r)) (x_XX O K h' (x_rv x_gi r)) args s 3 18 (oA O)) (F0 m 122 ls []) := by
  have hx := C.1
  have hb := C.2.1
  rw [f_X11_run_122] at hf
  refine lv_iinc (k := 5) (v := _ + 1) (lv' := [(6, _), (0, _), (1, _), (2, _), (4, _), (5, _)]) hx hb dX11_run_122 hl rfl (x_inc 1 1 rfl _) (Nat.le_of_ble_eq_true rfl) rfl (fun ls hl => ?_)
  refine lv_goto (tgt := 27) hx hb dX11_run_125 rfl ?_
  exact hk27 ls _ _ h _ _ _ _ _ kv4 (lv_sub hl [1, 2, 3, 4, 5, 0] rfl) hR hS hf
set_option maxRecDepth 20000 in
theorem B_X11_run_27 {p : Program} {l : Launch} {e : Env} {s : State} {m : MethodId} {args : Array Value} {below : List Frame} {meth : Method} {c : Code} {O : XO} {K : XK} {r : Nat ⊕ Int32} {h' : XH}   (C : x_C p s m args meth c O cX11_run 7 RX11 (some .int))   (hst : l.stackTraces = false) : ∀ (n : Nat) (ls : Array Slot) (H : Heap) (locs : List Loc) (h : XH) (v1 : Int32) (v2 : Int32) (v4 : Nat) (v5 : Int32) (v6 : Int32) (kv4 : K v4 = (3, 0)) (hl : lv_has ls 7 [(0, .ref (oX O)), (1, .int v1), (2, .int v2), (4, .ref v4), (5, .int v5), (6, .int v6)]) (hR : x_R O K h H) (hS : va_S (oA O) s.heap H locs) (hf : f_X11_run_27 K (oX O) n h v1 v2 v4 v5 v6 = some (r, h')), W p l e (x_rmX 8 132 3 18) s m args below meth c H locs 3 18 (vx_MQ below (x_XQ O K h' (x_rv x_gi r)) (x_XX O K h' (x_rv x_gi r)) args s 3 18 (oA O)) (F0 m 27 ls []) := by
  have hx := C.1
  have hb := C.2.1
  intro n
  induction n with
  | zero =>
    intro ls H locs h v1 v2 v4 v5 v6 kv4 hl hR hS hf
    rw [f_X11_run_27] at hf
    cases hf
  | succ n ih =>
    intro ls H locs h v1 v2 v4 v5 v6 kv4 hl hR hS hf
    rw [f_X11_run_27] at hf
    refine lv_iload hx hb dX11_run_27 (lv_at hl 5 rfl) ?_
    refine lv_aload hx hb dX11_run_29 (lv_at hl 3 rfl) ?_
    refine gf_2_2 C hR kv4 tw_256 dX11_run_31 ?_
    refine lv_icmp_ge (tgt := 128) hx hb dX11_run_34 rfl (fun hc => ?_) (fun hc => ?_)
    · have hf := x_ip hc hf
      refine lv_aload hx hb dX11_run_128 (lv_at hl 3 rfl) ?_
      obtain ⟨v_4, ev_4, hf⟩ := x_bd hf
      refine x_cVi0 C hR hS (S_X2_rightOnes kv4 ev_4) kv4 (by decide) rfl mf_X2_rightOnes tw_1234 (Nat.le_of_ble_eq_true rfl) (Nat.le_of_ble_eq_true rfl) hl.1 (Nat.le_of_ble_eq_true rfl) dX11_run_130 ⟨Nat.le_of_ble_eq_true rfl, Nat.le_of_ble_eq_true rfl⟩ (fun H locs hR hS => ?_)
      cases hf
      exact xx_iret C hR hS (Nat.le_of_ble_eq_true rfl) (Nat.le_of_ble_eq_true rfl) dX11_run_133
    · have hf := x_in hc hf
      refine lv_iload hx hb dX11_run_37 (lv_at hl 4 rfl) ?_
      refine x_cSi1 C hR hS (S_X11_nextSeed  rfl) mf_X11_nextSeed tw_1210 (Nat.le_of_ble_eq_true rfl) (Nat.le_of_ble_eq_true rfl) hl.1 (Nat.le_of_ble_eq_true rfl) dX11_run_39 ⟨Nat.le_of_ble_eq_true rfl, Nat.le_of_ble_eq_true rfl⟩ (fun H locs hR hS => ?_)
      refine lv_istore (lv' := [(5, _), (0, _), (1, _), (2, _), (4, _), (6, _)]) hx hb dX11_run_42 hl (Nat.le_of_ble_eq_true rfl) rfl (fun ls hl => ?_)
      refine lv_iload hx hb dX11_run_44 (lv_at hl 0 rfl) ?_
      refine x_cSi1 C hR hS (S_X11_drawOf  rfl) mf_X11_drawOf tw_1214 (Nat.le_of_ble_eq_true rfl) (Nat.le_of_ble_eq_true rfl) hl.1 (Nat.le_of_ble_eq_true rfl) dX11_run_46 ⟨Nat.le_of_ble_eq_true rfl, Nat.le_of_ble_eq_true rfl⟩ (fun H locs hR hS => ?_)
      refine lv_bipush (v := 100) hx hb dX11_run_49 rfl ?_
      refine lv_irem hx hb dX11_run_51 (by decide) ?_
      refine lv_aload_n hx hb dX11_run_52 rfl (lv_at hl 1 rfl) ?_
      refine gf_11_3 C hR (x_k hR 0 rfl) tw_498 dX11_run_53 ?_
      refine lv_aload_n hx hb dX11_run_56 rfl (lv_at hl 1 rfl) ?_
      refine gf_11_1 C hR (x_k hR 0 rfl) tw_496 dX11_run_57 ?_
      refine gf_7_9 C hR (x_k hR 9 rfl) tw_316 dX11_run_60 ?_
      refine lv_iload_n hx hb dX11_run_63 rfl (lv_at hl 2 rfl) ?_
      obtain ⟨g5, hf⟩ := x_gd hf
      refine x_taald C hR (x_k1 (x_k hR 14 rfl)) (x_k2 (x_k hR 14 rfl) g5) dX11_run_64 ?_
      refine lv_iload_n hx hb dX11_run_65 rfl (lv_at hl 3 rfl) ?_
      refine lv_iload hx hb dX11_run_66 (lv_at hl 5 rfl) ?_
      obtain ⟨q6, eq6, hf⟩ := x_bd hf
      refine x_cVi3 C hR hS (S_X5_heldNow (x_kT hR (x_k hR 14 rfl)) eq6) (x_k hR 46 rfl) (by decide) rfl mf_X5_heldNow tw_1107 (Nat.le_of_ble_eq_true rfl) (Nat.le_of_ble_eq_true rfl) hl.1 (Nat.le_of_ble_eq_true rfl) dX11_run_68 ⟨Nat.le_of_ble_eq_true rfl, Nat.le_of_ble_eq_true rfl⟩ (fun H locs hR hS => ?_)
      refine lv_icmp_ge (tgt := 92) hx hb dX11_run_71 rfl (fun hc => ?_) (fun hc => ?_)
      · have hf := x_ip hc hf
        refine lv_iload hx hb dX11_run_92 (lv_at hl 0 rfl) ?_
        refine x_cSi1 C hR hS (S_X11_nextSeed  rfl) mf_X11_nextSeed tw_1210 (Nat.le_of_ble_eq_true rfl) (Nat.le_of_ble_eq_true rfl) hl.1 (Nat.le_of_ble_eq_true rfl) dX11_run_94 ⟨Nat.le_of_ble_eq_true rfl, Nat.le_of_ble_eq_true rfl⟩ (fun H locs hR hS => ?_)
        obtain ⟨t7, et7, hf⟩ := x_lt hf
        refine x_nmi et7 ?_
        refine lv_istore (lv' := [(5, _), (0, _), (1, _), (2, _), (4, _), (6, _)]) hx hb dX11_run_97 hl (Nat.le_of_ble_eq_true rfl) rfl (fun ls hl => ?_)
        refine lv_aload hx hb dX11_run_99 (lv_at hl 4 rfl) ?_
        refine gf_2_5 C hR kv4 tw_271 dX11_run_101 ?_
        refine lv_iload hx hb dX11_run_104 (lv_at hl 5 rfl) ?_
        refine lv_aload_n hx hb dX11_run_106 rfl (lv_at hl 1 rfl) ?_
        refine gf_11_4 C hR (x_k hR 0 rfl) tw_499 dX11_run_107 ?_
        refine lv_iload_n hx hb dX11_run_110 rfl (lv_at hl 3 rfl) ?_
        refine lv_iload hx hb dX11_run_111 (lv_at hl 5 rfl) ?_
        refine lv_iload hx hb dX11_run_113 (lv_at hl 0 rfl) ?_
        refine x_cSi1 C hR hS (S_X11_drawOf  rfl) mf_X11_drawOf tw_1214 (Nat.le_of_ble_eq_true rfl) (Nat.le_of_ble_eq_true rfl) hl.1 (Nat.le_of_ble_eq_true rfl) dX11_run_115 ⟨Nat.le_of_ble_eq_true rfl, Nat.le_of_ble_eq_true rfl⟩ (fun H locs hR hS => ?_)
        obtain ⟨q8, eq8, hf⟩ := x_bd hf
        refine x_cVi3 C hR hS (S_X6_drawn  eq8) (x_k hR 49 rfl) (by decide) rfl mf_X6_drawn tw_1217 (Nat.le_of_ble_eq_true rfl) (Nat.le_of_ble_eq_true rfl) hl.1 (Nat.le_of_ble_eq_true rfl) dX11_run_118 ⟨Nat.le_of_ble_eq_true rfl, Nat.le_of_ble_eq_true rfl⟩ (fun H locs hR hS => ?_)
        obtain ⟨g9, hf⟩ := x_gd hf
        obtain ⟨h10, eh10, hf⟩ := x_lt hf
        refine x_iast C hR hS (x_k1 (kf_2_2 hR kv4)) (x_k2 (kf_2_2 hR kv4) g9) dX11_run_121 (fun H locs hR hS => ?_)
        rw [← eh10] at hR
        exact B_X11_run_122  C ih hst  ls _ _ h10 _ _ _ _ _ kv4 (lv_sub hl [1, 2, 3, 4, 0, 5] rfl) hR hS hf
      · have hf := x_in hc hf
        refine lv_aload hx hb dX11_run_74 (lv_at hl 4 rfl) ?_
        refine gf_2_5 C hR kv4 tw_271 dX11_run_76 ?_
        refine lv_iload hx hb dX11_run_79 (lv_at hl 5 rfl) ?_
        refine lv_aload hx hb dX11_run_81 (lv_at hl 4 rfl) ?_
        refine lv_iload hx hb dX11_run_83 (lv_at hl 5 rfl) ?_
        refine x_cVi1 C hR hS (S_X2_cardAt kv4 rfl) kv4 (by decide) rfl mf_X2_cardAt tw_965 (Nat.le_of_ble_eq_true rfl) (Nat.le_of_ble_eq_true rfl) hl.1 (Nat.le_of_ble_eq_true rfl) dX11_run_85 ⟨Nat.le_of_ble_eq_true rfl, Nat.le_of_ble_eq_true rfl⟩ (fun H locs hR hS => ?_)
        obtain ⟨g11, hf⟩ := x_gd hf
        obtain ⟨h12, eh12, hf⟩ := x_lt hf
        refine x_iast C hR hS (x_k1 (kf_2_2 hR kv4)) (x_k2 (kf_2_2 hR kv4) g11) dX11_run_88 (fun H locs hR hS => ?_)
        rw [← eh12] at hR
        refine lv_goto (tgt := 122) hx hb dX11_run_89 rfl ?_
        exact B_X11_run_122  C ih hst  ls _ _ h12 _ _ _ _ _ kv4 (lv_sub hl [1, 2, 3, 4, 0, 5] rfl) hR hS hf
set_option maxRecDepth 20000 in
theorem S_X11_run {l : Launch} {O : XO} {K : XK} {h : XH} {v1 : Int32} {v2 : Int32} {v3 : Int32}  {r : Nat ⊕ Int32} {h' : XH} (hst : l.stackTraces = false) (hf : f_X11_run K (oX O) h v1 v2 v3 = some (r, h')) : x_MX l O K yX11_run cX11_run 7 (some .int) 8 132 3 18 h [.ref (oX O), .int v1, .int v2, .int v3] (x_rv x_gi r) h' := by
  refine x_enterX (by decide) (Nat.le_of_ble_eq_true rfl) (fun p e s m args below meth c C hR ls hl => ?_)
  have hS : va_S (oA O) s.heap s.heap [] := va_S.rf
  have hx := C.1
  have hb := C.2.1
  have hl : lv_has ls 7 [(0, .ref (oX O)), (1, .int v1), (2, .int v2), (3, .int v3)] := hl
  rw [f_X11_run] at hf
  refine lv_aload_n hx hb dX11_run_0 rfl (lv_at hl 0 rfl) ?_
  refine lv_iload_n hx hb dX11_run_1 rfl (lv_at hl 1 rfl) ?_
  obtain ⟨s1_, h1, eh1, ht1, hf⟩ := x_xbd hf
  refine x_xVv1 C hR hS (S_X11_checkLaw hst eh1) (x_k hR 0 rfl) (by decide) rfl mf_X11_checkLaw tw_1102 (Nat.le_of_ble_eq_true rfl) (Nat.le_of_ble_eq_true rfl) hl.1 (Nat.le_of_ble_eq_true rfl) dX11_run_2 ⟨Nat.le_of_ble_eq_true rfl, Nat.le_of_ble_eq_true rfl⟩ (x_thx ht1) (Nat.le_of_ble_eq_true rfl) (Nat.le_of_ble_eq_true rfl) (fun hs1 H locs hR hS => ?_)
  have hf := hf () hs1
  refine lv_aload_n hx hb dX11_run_5 rfl (lv_at hl 0 rfl) ?_
  refine lv_iload_n hx hb dX11_run_6 rfl (lv_at hl 2 rfl) ?_
  obtain ⟨s2_, h2, eh2, ht2, hf⟩ := x_xbd hf
  refine x_xVv1 C hR hS (S_X11_checkPut hst eh2) (x_k hR 0 rfl) (by decide) rfl mf_X11_checkPut tw_1034 (Nat.le_of_ble_eq_true rfl) (Nat.le_of_ble_eq_true rfl) hl.1 (Nat.le_of_ble_eq_true rfl) dX11_run_7 ⟨Nat.le_of_ble_eq_true rfl, Nat.le_of_ble_eq_true rfl⟩ (x_thx ht2) (Nat.le_of_ble_eq_true rfl) (Nat.le_of_ble_eq_true rfl) (fun hs2 H locs hR hS => ?_)
  have hf := hf () hs2
  refine lv_aload_n hx hb dX11_run_10 rfl (lv_at hl 0 rfl) ?_
  refine gf_11_1 C hR (x_k hR 0 rfl) tw_496 dX11_run_11 ?_
  refine gf_7_5 C hR (x_k hR 9 rfl) tw_305 dX11_run_14 ?_
  refine lv_iload_n hx hb dX11_run_17 rfl (lv_at hl 2 rfl) ?_
  obtain ⟨g3, hf⟩ := x_gd hf
  refine x_paald C hR (x_k1 (x_k hR 13 rfl)) (x_k2 (x_k hR 13 rfl) g3) dX11_run_18 ?_
  refine lv_astore (lv' := [(4, _), (0, _), (1, _), (2, _), (3, _)]) hx hb dX11_run_19 hl (Nat.le_of_ble_eq_true rfl) rfl (fun ls hl => ?_)
  refine lv_iload_n hx hb dX11_run_21 rfl (lv_at hl 4 rfl) ?_
  refine lv_istore (lv' := [(5, _), (4, _), (0, _), (1, _), (2, _), (3, _)]) hx hb dX11_run_22 hl (Nat.le_of_ble_eq_true rfl) rfl (fun ls hl => ?_)
  refine lv_iconst (v := 0) hx hb dX11_run_24 rfl ?_
  refine lv_istore (lv' := [(6, _), (5, _), (4, _), (0, _), (1, _), (2, _), (3, _)]) hx hb dX11_run_25 hl (Nat.le_of_ble_eq_true rfl) rfl (fun ls hl => ?_)
  exact B_X11_run_27  C  hst x_FU ls _ _ h2 _ _ _ _ _ (x_kP hR (x_k hR 13 rfl) g3) (lv_sub hl [3, 4, 5, 2, 1, 0] rfl) hR hS hf
def f_X11_odds_27 (K : XK) (x : Nat) (h : XH) : Option ((Nat ⊕ Int32) × XH) := some (.inl 1, h)
def f_X11_odds_113 (K : XK) (x : Nat) (h : XH) (v5 : Int32) (v7 : Int64) (v9 : Int64) : Option ((Nat ⊕ Int32) × XH) := Option.bind (f_X11_commonPart h v7 v9) (fun v_6 => if v_6 = 0 then none else some (.inr (((if v5 = 0 then v7 else v9) / v_6).toInt32), h))
def f_X11_odds (K : XK) (x : Nat) (h : XH) (v1 : Int32) (v2 : Int32) (v3 : Int32) (v4 : Int32) (v5 : Int32) : Option ((Nat ⊕ Int32) × XH) := x_xb (f_X11_checkLaw x h v1) (fun _ h1 => x_xb (f_X11_checkPlaceIn x h1 v2 v3) (fun _ h2 => x_xb (f_X11_checkPut x h2 v2) (fun _ h3 => if v4 < 0 then f_X11_odds_27 K x h3 else if v4 ≤ 5 then if x_b v1 3 = true then Option.bind (f_X5_heldNow K x h3 (h3.2.2 (x + 14) v1.toNatClampNeg) v2 v3) (fun q5 => if v4 = 0 then f_X11_odds_113 K x q5.2 v5 q5.1.toInt64 100 else Option.bind (f_X6_find x q5.2 v2 v3) (fun h9 => Option.bind (f_X6_weightOf x h9 v4) (fun v_10 => x_let (((100 - q5.1) * v_10).toInt64 : Int64) (fun t11 => Option.bind (f_X6_allWeights x h9) (fun v_12 => f_X11_odds_113 K x h9 v5 t11 ((100 * v_12).toInt64)))))) else none else f_X11_odds_27 K x h3)))
set_option maxRecDepth 20000 in
theorem B_X11_odds_27 {p : Program} {l : Launch} {e : Env} {s : State} {m : MethodId} {args : Array Value} {below : List Frame} {meth : Method} {c : Code} {O : XO} {K : XK} {r : Nat ⊕ Int32} {h' : XH}   (C : x_C p s m args meth c O cX11_odds 13 RX11 (some .int))   (hst : l.stackTraces = false) (ls : Array Slot) (H : Heap) (locs : List Loc) (h : XH) (hl : lv_has ls 13 []) (hR : x_R O K h H) (hS : va_S (oA O) s.heap H locs) (hf : f_X11_odds_27 K (oX O) h = some (r, h')) : W p l e (x_rmX 8 133 6 36) s m args below meth c H locs 5 30 (vx_MQ below (x_XQ O K h' (x_rv x_gi r)) (x_XX O K h' (x_rv x_gi r)) args s 6 36 (oA O)) (F0 m 27 ls []) := by
  have hx := C.1
  have hb := C.2.1
  rw [f_X11_odds_27] at hf
  cases hf
  exact x_thrW tf_1 C hR hS hst hl.1 (xs_30 C) dX11_odds_27 dX11_odds_30 dX11_odds_31 dX11_odds_34 dX11_odds_37 (Nat.le_of_ble_eq_true rfl) (by decide) (Nat.le_of_ble_eq_true rfl) (Nat.le_of_ble_eq_true rfl) (Nat.le_of_ble_eq_true rfl) (Nat.le_of_ble_eq_true rfl)
set_option maxRecDepth 20000 in
theorem B_X11_odds_113 {p : Program} {l : Launch} {e : Env} {s : State} {m : MethodId} {args : Array Value} {below : List Frame} {meth : Method} {c : Code} {O : XO} {K : XK} {r : Nat ⊕ Int32} {h' : XH}   (C : x_C p s m args meth c O cX11_odds 13 RX11 (some .int))   (hst : l.stackTraces = false) (ls : Array Slot) (H : Heap) (locs : List Loc) (h : XH) (v5 : Int32) (v7 : Int64) (v9 : Int64) (hl : lv_has ls 13 [(5, .int v5), (7, .long v7), (9, .long v9)]) (hR : x_R O K h H) (hS : va_S (oA O) s.heap H locs) (hf : f_X11_odds_113 K (oX O) h v5 v7 v9 = some (r, h')) : W p l e (x_rmX 8 133 6 36) s m args below meth c H locs 5 30 (vx_MQ below (x_XQ O K h' (x_rv x_gi r)) (x_XX O K h' (x_rv x_gi r)) args s 6 36 (oA O)) (F0 m 113 ls []) := by
  have hx := C.1
  have hb := C.2.1
  rw [f_X11_odds_113] at hf
  refine lv_lload hx hb dX11_odds_113 (lv_at hl 1 rfl) ?_
  refine lv_lload hx hb dX11_odds_115 (lv_at hl 2 rfl) ?_
  obtain ⟨v_6, ev_6, hf⟩ := x_bd hf
  refine x_cSl2 C hR hS (S_X11_commonPart  ev_6) mf_X11_commonPart tw_1247 (Nat.le_of_ble_eq_true rfl) (Nat.le_of_ble_eq_true rfl) hl.1 (Nat.le_of_ble_eq_true rfl) dX11_odds_117 ⟨Nat.le_of_ble_eq_true rfl, Nat.le_of_ble_eq_true rfl⟩ (fun H locs hR hS => ?_)
  refine lv_lstore (lv' := [(11, _), (5, _), (7, _), (9, _)]) hx hb dX11_odds_120 hl (Nat.le_of_ble_eq_true rfl) rfl (fun ls hl => ?_)
  refine lv_iload hx hb dX11_odds_122 (lv_at hl 1 rfl) ?_
  have kM7 : ∀ (ls : Array Slot) (H : Heap) (locs : List Loc), lv_has ls 13 [(11, .long v_6)] → x_R O K h H → va_S (oA O) s.heap H locs → W p l e (x_rmX 8 133 6 36) s m args below meth c H locs 5 30 (vx_MQ below (x_XQ O K h' (x_rv x_gi r)) (x_XX O K h' (x_rv x_gi r)) args s 6 36 (oA O)) (F0 m 134 ls [.long (if v5 = 0 then v7 else v9)]) := by
    intro ls H locs hl hR hS
    refine lv_lload hx hb dX11_odds_134 (lv_at hl 0 rfl) ?_
    obtain ⟨g8, hf⟩ := x_gn hf
    refine lv_ldiv hx hb dX11_odds_136 g8 ?_
    refine lv_l2i hx hb dX11_odds_137 rfl ?_
    cases hf
    exact xx_iret C hR hS (Nat.le_of_ble_eq_true rfl) (Nat.le_of_ble_eq_true rfl) dX11_odds_138
  refine lv_if_eq (tgt := 132) hx hb dX11_odds_124 rfl (fun hc => ?_) (fun hc => ?_)
  · try simp only [if_pos hc] at kM7
    refine lv_lload hx hb dX11_odds_132 (lv_at hl 2 rfl) ?_
    exact kM7 ls _ _ (lv_sub hl [0] rfl) hR hS
  · try simp only [if_neg hc] at kM7
    refine lv_lload hx hb dX11_odds_127 (lv_at hl 3 rfl) ?_
    refine lv_goto (tgt := 134) hx hb dX11_odds_129 rfl ?_
    exact kM7 ls _ _ (lv_sub hl [0] rfl) hR hS
set_option maxRecDepth 20000 in
theorem S_X11_odds {l : Launch} {O : XO} {K : XK} {h : XH} {v1 : Int32} {v2 : Int32} {v3 : Int32} {v4 : Int32} {v5 : Int32}  {r : Nat ⊕ Int32} {h' : XH} (hst : l.stackTraces = false) (hf : f_X11_odds K (oX O) h v1 v2 v3 v4 v5 = some (r, h')) : x_MX l O K yX11_odds cX11_odds 13 (some .int) 8 133 6 36 h [.ref (oX O), .int v1, .int v2, .int v3, .int v4, .int v5] (x_rv x_gi r) h' := by
  refine x_enterX (by decide) (Nat.le_of_ble_eq_true rfl) (fun p e s m args below meth c C hR ls hl => ?_)
  have hS : va_S (oA O) s.heap s.heap [] := va_S.rf
  have hx := C.1
  have hb := C.2.1
  have hl : lv_has ls 13 [(0, .ref (oX O)), (1, .int v1), (2, .int v2), (3, .int v3), (4, .int v4), (5, .int v5)] := hl
  rw [f_X11_odds] at hf
  refine lv_aload_n hx hb dX11_odds_0 rfl (lv_at hl 0 rfl) ?_
  refine lv_iload_n hx hb dX11_odds_1 rfl (lv_at hl 1 rfl) ?_
  obtain ⟨s1_, h1, eh1, ht1, hf⟩ := x_xbd hf
  refine x_xVv1 C hR hS (S_X11_checkLaw hst eh1) (x_k hR 0 rfl) (by decide) rfl mf_X11_checkLaw tw_1102 (Nat.le_of_ble_eq_true rfl) (Nat.le_of_ble_eq_true rfl) hl.1 (Nat.le_of_ble_eq_true rfl) dX11_odds_2 ⟨Nat.le_of_ble_eq_true rfl, Nat.le_of_ble_eq_true rfl⟩ (x_thx ht1) (Nat.le_of_ble_eq_true rfl) (Nat.le_of_ble_eq_true rfl) (fun hs1 H locs hR hS => ?_)
  have hf := hf () hs1
  refine lv_aload_n hx hb dX11_odds_5 rfl (lv_at hl 0 rfl) ?_
  refine lv_iload_n hx hb dX11_odds_6 rfl (lv_at hl 2 rfl) ?_
  refine lv_iload_n hx hb dX11_odds_7 rfl (lv_at hl 3 rfl) ?_
  obtain ⟨s2_, h2, eh2, ht2, hf⟩ := x_xbd hf
  refine x_xVv2 C hR hS (S_X11_checkPlaceIn hst eh2) (x_k hR 0 rfl) (by decide) rfl mf_X11_checkPlaceIn tw_955 (Nat.le_of_ble_eq_true rfl) (Nat.le_of_ble_eq_true rfl) hl.1 (Nat.le_of_ble_eq_true rfl) dX11_odds_8 ⟨Nat.le_of_ble_eq_true rfl, Nat.le_of_ble_eq_true rfl⟩ (x_thx ht2) (Nat.le_of_ble_eq_true rfl) (Nat.le_of_ble_eq_true rfl) (fun hs2 H locs hR hS => ?_)
  have hf := hf () hs2
  refine lv_aload_n hx hb dX11_odds_11 rfl (lv_at hl 0 rfl) ?_
  refine lv_iload_n hx hb dX11_odds_12 rfl (lv_at hl 2 rfl) ?_
  obtain ⟨s3_, h3, eh3, ht3, hf⟩ := x_xbd hf
  refine x_xVv1 C hR hS (S_X11_checkPut hst eh3) (x_k hR 0 rfl) (by decide) rfl mf_X11_checkPut tw_1034 (Nat.le_of_ble_eq_true rfl) (Nat.le_of_ble_eq_true rfl) hl.1 (Nat.le_of_ble_eq_true rfl) dX11_odds_13 ⟨Nat.le_of_ble_eq_true rfl, Nat.le_of_ble_eq_true rfl⟩ (x_thx ht3) (Nat.le_of_ble_eq_true rfl) (Nat.le_of_ble_eq_true rfl) (fun hs3 H locs hR hS => ?_)
  have hf := hf () hs3
  refine lv_iload hx hb dX11_odds_16 (lv_at hl 4 rfl) ?_
  refine lv_if_lt (tgt := 27) hx hb dX11_odds_18 rfl (fun hc => ?_) (fun hc => ?_)
  · have hf := x_ip hc hf
    exact B_X11_odds_27  C  hst  ls _ _ h3  (lv_sub hl [] rfl) hR hS hf
  · have hf := x_in hc hf
    refine lv_iload hx hb dX11_odds_21 (lv_at hl 4 rfl) ?_
    refine lv_iconst (v := 5) hx hb dX11_odds_23 rfl ?_
    refine lv_icmp_le (tgt := 38) hx hb dX11_odds_24 rfl (fun hc => ?_) (fun hc => ?_)
    · have hf := x_ip hc hf
      refine lv_aload_n hx hb dX11_odds_38 rfl (lv_at hl 0 rfl) ?_
      refine gf_11_3 C hR (x_k hR 0 rfl) tw_498 dX11_odds_39 ?_
      refine lv_aload_n hx hb dX11_odds_42 rfl (lv_at hl 0 rfl) ?_
      refine gf_11_1 C hR (x_k hR 0 rfl) tw_496 dX11_odds_43 ?_
      refine gf_7_9 C hR (x_k hR 9 rfl) tw_316 dX11_odds_46 ?_
      refine lv_iload_n hx hb dX11_odds_49 rfl (lv_at hl 1 rfl) ?_
      obtain ⟨g4, hf⟩ := x_gd hf
      refine x_taald C hR (x_k1 (x_k hR 14 rfl)) (x_k2 (x_k hR 14 rfl) g4) dX11_odds_50 ?_
      refine lv_iload_n hx hb dX11_odds_51 rfl (lv_at hl 2 rfl) ?_
      refine lv_iload_n hx hb dX11_odds_52 rfl (lv_at hl 3 rfl) ?_
      obtain ⟨q5, eq5, hf⟩ := x_bd hf
      refine x_cVi3 C hR hS (S_X5_heldNow (x_kT hR (x_k hR 14 rfl)) eq5) (x_k hR 46 rfl) (by decide) rfl mf_X5_heldNow tw_1107 (Nat.le_of_ble_eq_true rfl) (Nat.le_of_ble_eq_true rfl) hl.1 (Nat.le_of_ble_eq_true rfl) dX11_odds_53 ⟨Nat.le_of_ble_eq_true rfl, Nat.le_of_ble_eq_true rfl⟩ (fun H locs hR hS => ?_)
      refine lv_istore (lv' := [(6, _), (0, _), (1, _), (2, _), (3, _), (4, _), (5, _)]) hx hb dX11_odds_56 hl (Nat.le_of_ble_eq_true rfl) rfl (fun ls hl => ?_)
      refine lv_iload hx hb dX11_odds_58 (lv_at hl 0 rfl) ?_
      refine lv_i2l hx hb dX11_odds_60 rfl ?_
      refine lv_lstore (lv' := [(7, _), (6, _), (0, _), (1, _), (2, _), (3, _), (4, _), (5, _)]) hx hb dX11_odds_61 hl (Nat.le_of_ble_eq_true rfl) rfl (fun ls hl => ?_)
      refine lv_ldc2 hx hb C.2.2.2.1 (C.2.2.2.2.1 _ tw_1243) dX11_odds_63 ?_
      refine lv_lstore (lv' := [(9, _), (7, _), (6, _), (0, _), (1, _), (2, _), (3, _), (4, _), (5, _)]) hx hb dX11_odds_66 hl (Nat.le_of_ble_eq_true rfl) rfl (fun ls hl => ?_)
      refine lv_iload hx hb dX11_odds_68 (lv_at hl 7 rfl) ?_
      refine lv_if_eq (tgt := 113) hx hb dX11_odds_70 rfl (fun hc => ?_) (fun hc => ?_)
      · have hf := x_ip hc hf
        exact B_X11_odds_113  C  hst  ls _ _ q5.2 _ _ _  (lv_sub hl [8, 1, 0] rfl) hR hS hf
      · have hf := x_in hc hf
        refine lv_aload_n hx hb dX11_odds_73 rfl (lv_at hl 3 rfl) ?_
        refine gf_11_4 C hR (x_k hR 0 rfl) tw_499 dX11_odds_74 ?_
        refine lv_iload_n hx hb dX11_odds_77 rfl (lv_at hl 5 rfl) ?_
        refine lv_iload_n hx hb dX11_odds_78 rfl (lv_at hl 6 rfl) ?_
        obtain ⟨h9, eh9, hf⟩ := x_bd hf
        refine x_cVv2 C hR hS (S_X6_find  eh9) (x_k hR 49 rfl) (by decide) rfl mf_X6_find tw_1244 (Nat.le_of_ble_eq_true rfl) (Nat.le_of_ble_eq_true rfl) hl.1 (Nat.le_of_ble_eq_true rfl) dX11_odds_79 ⟨Nat.le_of_ble_eq_true rfl, Nat.le_of_ble_eq_true rfl⟩ (fun H locs hR hS => ?_)
        refine lv_bipush (v := 100) hx hb dX11_odds_82 rfl ?_
        refine lv_iload hx hb dX11_odds_84 (lv_at hl 2 rfl) ?_
        refine lv_isub hx hb dX11_odds_86 ?_
        refine lv_aload_n hx hb dX11_odds_87 rfl (lv_at hl 3 rfl) ?_
        refine gf_11_4 C hR (x_k hR 0 rfl) tw_499 dX11_odds_88 ?_
        refine lv_iload hx hb dX11_odds_91 (lv_at hl 7 rfl) ?_
        obtain ⟨v_10, ev_10, hf⟩ := x_bd hf
        refine x_cVi1 C hR hS (S_X6_weightOf  ev_10) (x_k hR 49 rfl) (by decide) rfl mf_X6_weightOf tw_1245 (Nat.le_of_ble_eq_true rfl) (Nat.le_of_ble_eq_true rfl) hl.1 (Nat.le_of_ble_eq_true rfl) dX11_odds_93 ⟨Nat.le_of_ble_eq_true rfl, Nat.le_of_ble_eq_true rfl⟩ (fun H locs hR hS => ?_)
        refine lv_imul hx hb dX11_odds_96 ?_
        refine lv_i2l hx hb dX11_odds_97 rfl ?_
        obtain ⟨t11, et11, hf⟩ := x_lt hf
        refine x_nml et11 ?_
        refine lv_lstore (lv' := [(7, _), (9, _), (6, _), (0, _), (1, _), (2, _), (3, _), (4, _), (5, _)]) hx hb dX11_odds_98 hl (Nat.le_of_ble_eq_true rfl) rfl (fun ls hl => ?_)
        refine lv_bipush (v := 100) hx hb dX11_odds_100 rfl ?_
        refine lv_aload_n hx hb dX11_odds_102 rfl (lv_at hl 3 rfl) ?_
        refine gf_11_4 C hR (x_k hR 0 rfl) tw_499 dX11_odds_103 ?_
        obtain ⟨v_12, ev_12, hf⟩ := x_bd hf
        refine x_cVi0 C hR hS (S_X6_allWeights  ev_12) (x_k hR 49 rfl) (by decide) rfl mf_X6_allWeights tw_1246 (Nat.le_of_ble_eq_true rfl) (Nat.le_of_ble_eq_true rfl) hl.1 (Nat.le_of_ble_eq_true rfl) dX11_odds_106 ⟨Nat.le_of_ble_eq_true rfl, Nat.le_of_ble_eq_true rfl⟩ (fun H locs hR hS => ?_)
        refine lv_imul hx hb dX11_odds_109 ?_
        refine lv_i2l hx hb dX11_odds_110 rfl ?_
        refine lv_lstore (lv' := [(9, _), (7, _), (6, _), (0, _), (1, _), (2, _), (3, _), (4, _), (5, _)]) hx hb dX11_odds_111 hl (Nat.le_of_ble_eq_true rfl) rfl (fun ls hl => ?_)
        exact B_X11_odds_113  C  hst  ls _ _ h9 _ _ _  (lv_sub hl [8, 1, 0] rfl) hR hS hf
    · have hf := x_in hc hf
      exact B_X11_odds_27  C  hst  ls _ _ h3  (lv_sub hl [] rfl) hR hS hf
def f_X11_kinds_15 (x : Nat) (h : XH) : Option ((Nat ⊕ Int32) × XH) := some (.inl 1, h)
def f_X11_kinds_31 (x : Nat) : Nat → XH → Int32 → Int32 → Int32 → Int32 → Option ((Nat ⊕ Int32) × XH)
  | 0, _, _, _, _, _ => none
  | n + 1, h, v1, v2, v3, v4 => if x_b v1 8 = true then if (h.1 ((x + 13) + 6 + 3 * v1.toNatClampNeg) 2) ≤ v4 then some (.inr v3, h) else Option.bind (f_X6_kindOf x h v1 v4) (fun q3 => f_X11_kinds_31 x n q3.2 v1 v2 (if q3.1 = v2 then (v3 + 1) else v3) (v4 + 1)) else none
def f_X11_kinds (x : Nat) (h : XH) (v1 : Int32) (v2 : Int32) : Option ((Nat ⊕ Int32) × XH) := x_xb (f_X11_checkPut x h v1) (fun _ h1 => if v2 < 0 then f_X11_kinds_15 x h1 else if v2 ≤ 6 then f_X11_kinds_31 x x_FU h1 v1 v2 0 0 else f_X11_kinds_15 x h1)
set_option maxRecDepth 20000 in
theorem B_X11_kinds_15 {p : Program} {l : Launch} {e : Env} {s : State} {m : MethodId} {args : Array Value} {below : List Frame} {meth : Method} {c : Code} {O : XO} {K : XK} {r : Nat ⊕ Int32} {h' : XH}   (C : x_C p s m args meth c O cX11_kinds 5 RX11 (some .int))   (hst : l.stackTraces = false) (ls : Array Slot) (H : Heap) (locs : List Loc) (h : XH) (hl : lv_has ls 5 []) (hR : x_R O K h H) (hS : va_S (oA O) s.heap H locs) (hf : f_X11_kinds_15 (oX O) h = some (r, h')) : W p l e (x_rmX 8 132 3 18) s m args below meth c H locs 2 12 (vx_MQ below (x_XQ O K h' (x_rv x_gi r)) (x_XX O K h' (x_rv x_gi r)) args s 3 18 (oA O)) (F0 m 15 ls []) := by
  have hx := C.1
  have hb := C.2.1
  rw [f_X11_kinds_15] at hf
  cases hf
  exact x_thrW tf_1 C hR hS hst hl.1 (xs_31 C) dX11_kinds_15 dX11_kinds_18 dX11_kinds_19 dX11_kinds_22 dX11_kinds_25 (Nat.le_of_ble_eq_true rfl) (by decide) (Nat.le_of_ble_eq_true rfl) (Nat.le_of_ble_eq_true rfl) (Nat.le_of_ble_eq_true rfl) (Nat.le_of_ble_eq_true rfl)
set_option maxRecDepth 20000 in
theorem B_X11_kinds_31 {p : Program} {l : Launch} {e : Env} {s : State} {m : MethodId} {args : Array Value} {below : List Frame} {meth : Method} {c : Code} {O : XO} {K : XK} {r : Nat ⊕ Int32} {h' : XH}   (C : x_C p s m args meth c O cX11_kinds 5 RX11 (some .int))   (hst : l.stackTraces = false) : ∀ (n : Nat) (ls : Array Slot) (H : Heap) (locs : List Loc) (h : XH) (v1 : Int32) (v2 : Int32) (v3 : Int32) (v4 : Int32) (hl : lv_has ls 5 [(0, .ref (oX O)), (1, .int v1), (2, .int v2), (3, .int v3), (4, .int v4)]) (hR : x_R O K h H) (hS : va_S (oA O) s.heap H locs) (hf : f_X11_kinds_31 (oX O) n h v1 v2 v3 v4 = some (r, h')), W p l e (x_rmX 8 132 3 18) s m args below meth c H locs 2 12 (vx_MQ below (x_XQ O K h' (x_rv x_gi r)) (x_XX O K h' (x_rv x_gi r)) args s 3 18 (oA O)) (F0 m 31 ls []) := by
  have hx := C.1
  have hb := C.2.1
  intro n
  induction n with
  | zero =>
    intro ls H locs h v1 v2 v3 v4 hl hR hS hf
    rw [f_X11_kinds_31] at hf
    cases hf
  | succ n ih =>
    intro ls H locs h v1 v2 v3 v4 hl hR hS hf
    rw [f_X11_kinds_31] at hf
    refine lv_iload hx hb dX11_kinds_31 (lv_at hl 4 rfl) ?_
    refine lv_aload_n hx hb dX11_kinds_33 rfl (lv_at hl 0 rfl) ?_
    refine gf_11_1 C hR (x_k hR 0 rfl) tw_496 dX11_kinds_34 ?_
    refine gf_7_5 C hR (x_k hR 9 rfl) tw_305 dX11_kinds_37 ?_
    refine lv_iload_n hx hb dX11_kinds_40 rfl (lv_at hl 1 rfl) ?_
    obtain ⟨g2, hf⟩ := x_gd hf
    refine x_paald C hR (x_k1 (x_k hR 13 rfl)) (x_k2 (x_k hR 13 rfl) g2) dX11_kinds_41 ?_
    refine gf_2_2 C hR (x_kP hR (x_k hR 13 rfl) g2) tw_256 dX11_kinds_42 ?_
    refine lv_icmp_ge (tgt := 71) hx hb dX11_kinds_45 rfl (fun hc => ?_) (fun hc => ?_)
    · have hf := x_ip hc hf
      refine lv_iload_n hx hb dX11_kinds_71 rfl (lv_at hl 3 rfl) ?_
      cases hf
      exact xx_iret C hR hS (Nat.le_of_ble_eq_true rfl) (Nat.le_of_ble_eq_true rfl) dX11_kinds_72
    · have hf := x_in hc hf
      refine lv_aload_n hx hb dX11_kinds_48 rfl (lv_at hl 0 rfl) ?_
      refine gf_11_4 C hR (x_k hR 0 rfl) tw_499 dX11_kinds_49 ?_
      refine lv_iload_n hx hb dX11_kinds_52 rfl (lv_at hl 1 rfl) ?_
      refine lv_iload hx hb dX11_kinds_53 (lv_at hl 4 rfl) ?_
      obtain ⟨q3, eq3, hf⟩ := x_bd hf
      refine x_cVi2 C hR hS (S_X6_kindOf  eq3) (x_k hR 49 rfl) (by decide) rfl mf_X6_kindOf tw_1161 (Nat.le_of_ble_eq_true rfl) (Nat.le_of_ble_eq_true rfl) hl.1 (Nat.le_of_ble_eq_true rfl) dX11_kinds_55 ⟨Nat.le_of_ble_eq_true rfl, Nat.le_of_ble_eq_true rfl⟩ (fun H locs hR hS => ?_)
      refine lv_iload_n hx hb dX11_kinds_58 rfl (lv_at hl 2 rfl) ?_
      have kM4 : ∀ (ls : Array Slot) (H : Heap) (locs : List Loc), lv_has ls 5 [(0, .ref (oX O)), (1, .int v1), (2, .int v2), (3, .int (if q3.1 = v2 then (v3 + 1) else v3)), (4, .int v4)] → x_R O K q3.2 H → va_S (oA O) s.heap H locs → W p l e (x_rmX 8 132 3 18) s m args below meth c H locs 2 12 (vx_MQ below (x_XQ O K h' (x_rv x_gi r)) (x_XX O K h' (x_rv x_gi r)) args s 3 18 (oA O)) (F0 m 65 ls []) := by
        intro ls H locs hl hR hS
        refine lv_iinc (k := 4) (v := _ + 1) (lv' := [(4, _), (0, _), (1, _), (2, _), (3, _)]) hx hb dX11_kinds_65 hl rfl (x_inc 1 1 rfl _) (Nat.le_of_ble_eq_true rfl) rfl (fun ls hl => ?_)
        refine lv_goto (tgt := 31) hx hb dX11_kinds_68 rfl ?_
        exact ih ls _ _ q3.2 _ _ _ _  (lv_sub hl [1, 2, 3, 4, 0] rfl) hR hS hf
      refine lv_icmp_ne (tgt := 65) hx hb dX11_kinds_59 rfl (fun hc => ?_) (fun hc => ?_)
      · try simp only [if_neg hc] at kM4
        exact kM4 ls _ _ (lv_sub hl [0, 1, 2, 3, 4] rfl) hR hS
      · try simp only [if_pos hc] at kM4
        refine lv_iinc (k := 3) (v := _ + 1) (lv' := [(3, _), (0, _), (1, _), (2, _), (4, _)]) hx hb dX11_kinds_62 hl rfl (x_inc 1 1 rfl _) (Nat.le_of_ble_eq_true rfl) rfl (fun ls hl => ?_)
        exact kM4 ls _ _ (lv_sub hl [1, 2, 3, 0, 4] rfl) hR hS
set_option maxRecDepth 20000 in
theorem S_X11_kinds {l : Launch} {O : XO} {K : XK} {h : XH} {v1 : Int32} {v2 : Int32}  {r : Nat ⊕ Int32} {h' : XH} (hst : l.stackTraces = false) (hf : f_X11_kinds (oX O) h v1 v2 = some (r, h')) : x_MX l O K yX11_kinds cX11_kinds 5 (some .int) 8 132 3 18 h [.ref (oX O), .int v1, .int v2] (x_rv x_gi r) h' := by
  refine x_enterX (by decide) (Nat.le_of_ble_eq_true rfl) (fun p e s m args below meth c C hR ls hl => ?_)
  have hS : va_S (oA O) s.heap s.heap [] := va_S.rf
  have hx := C.1
  have hb := C.2.1
  have hl : lv_has ls 5 [(0, .ref (oX O)), (1, .int v1), (2, .int v2)] := hl
  rw [f_X11_kinds] at hf
  refine lv_aload_n hx hb dX11_kinds_0 rfl (lv_at hl 0 rfl) ?_
  refine lv_iload_n hx hb dX11_kinds_1 rfl (lv_at hl 1 rfl) ?_
  obtain ⟨s1_, h1, eh1, ht1, hf⟩ := x_xbd hf
  refine x_xVv1 C hR hS (S_X11_checkPut hst eh1) (x_k hR 0 rfl) (by decide) rfl mf_X11_checkPut tw_1034 (Nat.le_of_ble_eq_true rfl) (Nat.le_of_ble_eq_true rfl) hl.1 (Nat.le_of_ble_eq_true rfl) dX11_kinds_2 ⟨Nat.le_of_ble_eq_true rfl, Nat.le_of_ble_eq_true rfl⟩ (x_thx ht1) (Nat.le_of_ble_eq_true rfl) (Nat.le_of_ble_eq_true rfl) (fun hs1 H locs hR hS => ?_)
  have hf := hf () hs1
  refine lv_iload_n hx hb dX11_kinds_5 rfl (lv_at hl 2 rfl) ?_
  refine lv_if_lt (tgt := 15) hx hb dX11_kinds_6 rfl (fun hc => ?_) (fun hc => ?_)
  · have hf := x_ip hc hf
    exact B_X11_kinds_15  C  hst  ls _ _ h1  (lv_sub hl [] rfl) hR hS hf
  · have hf := x_in hc hf
    refine lv_iload_n hx hb dX11_kinds_9 rfl (lv_at hl 2 rfl) ?_
    refine lv_bipush (v := 6) hx hb dX11_kinds_10 rfl ?_
    refine lv_icmp_le (tgt := 26) hx hb dX11_kinds_12 rfl (fun hc => ?_) (fun hc => ?_)
    · have hf := x_ip hc hf
      refine lv_iconst (v := 0) hx hb dX11_kinds_26 rfl ?_
      refine lv_istore_n (lv' := [(3, _), (0, _), (1, _), (2, _)]) hx hb dX11_kinds_27 rfl hl (Nat.le_of_ble_eq_true rfl) rfl (fun ls hl => ?_)
      refine lv_iconst (v := 0) hx hb dX11_kinds_28 rfl ?_
      refine lv_istore (lv' := [(4, _), (3, _), (0, _), (1, _), (2, _)]) hx hb dX11_kinds_29 hl (Nat.le_of_ble_eq_true rfl) rfl (fun ls hl => ?_)
      exact B_X11_kinds_31  C  hst x_FU ls _ _ h1 _ _ _ _  (lv_sub hl [2, 3, 4, 1, 0] rfl) hR hS hf
    · have hf := x_in hc hf
      exact B_X11_kinds_15  C  hst  ls _ _ h1  (lv_sub hl [] rfl) hR hS hf
def f_X11_score (K : XK) (x : Nat) (h : XH) (v1 : Int32) (v2 : Int32) : Option ((Nat ⊕ Int32) × XH) := x_xb (f_X11_checkRule x h v1) (fun _ h1 => x_xb (f_X11_checkPut x h1 v2) (fun _ h2 => if x_b v2 8 = true then if x_b v1 3 = true then Option.bind (f_X2_rightOnes ((x + 13) + 6 + 3 * v2.toNatClampNeg) h2) (fun v_5 => Option.bind (f_X2_blanks ((x + 13) + 6 + 3 * v2.toNatClampNeg) h2) (fun v_6 => Option.bind (f_X9_scoreOf K x h2 (h2.2.2 (x + 15) v1.toNatClampNeg) v_5 v_6 (h2.1 ((x + 13) + 6 + 3 * v2.toNatClampNeg) 2)) (fun q7 => some (.inr q7.1.toInt32, q7.2)))) else none else none))
set_option maxRecDepth 20000 in
theorem S_X11_score {l : Launch} {O : XO} {K : XK} {h : XH} {v1 : Int32} {v2 : Int32}  {r : Nat ⊕ Int32} {h' : XH} (hst : l.stackTraces = false) (hf : f_X11_score K (oX O) h v1 v2 = some (r, h')) : x_MX l O K yX11_score cX11_score 4 (some .int) 8 132 3 18 h [.ref (oX O), .int v1, .int v2] (x_rv x_gi r) h' := by
  refine x_enterX (by decide) (Nat.le_of_ble_eq_true rfl) (fun p e s m args below meth c C hR ls hl => ?_)
  have hS : va_S (oA O) s.heap s.heap [] := va_S.rf
  have hx := C.1
  have hb := C.2.1
  have hl : lv_has ls 4 [(0, .ref (oX O)), (1, .int v1), (2, .int v2)] := hl
  rw [f_X11_score] at hf
  refine lv_aload_n hx hb dX11_score_0 rfl (lv_at hl 0 rfl) ?_
  refine lv_iload_n hx hb dX11_score_1 rfl (lv_at hl 1 rfl) ?_
  obtain ⟨s1_, h1, eh1, ht1, hf⟩ := x_xbd hf
  refine x_xVv1 C hR hS (S_X11_checkRule hst eh1) (x_k hR 0 rfl) (by decide) rfl mf_X11_checkRule tw_1265 (Nat.le_of_ble_eq_true rfl) (Nat.le_of_ble_eq_true rfl) hl.1 (Nat.le_of_ble_eq_true rfl) dX11_score_2 ⟨Nat.le_of_ble_eq_true rfl, Nat.le_of_ble_eq_true rfl⟩ (x_thx ht1) (Nat.le_of_ble_eq_true rfl) (Nat.le_of_ble_eq_true rfl) (fun hs1 H locs hR hS => ?_)
  have hf := hf () hs1
  refine lv_aload_n hx hb dX11_score_5 rfl (lv_at hl 0 rfl) ?_
  refine lv_iload_n hx hb dX11_score_6 rfl (lv_at hl 2 rfl) ?_
  obtain ⟨s2_, h2, eh2, ht2, hf⟩ := x_xbd hf
  refine x_xVv1 C hR hS (S_X11_checkPut hst eh2) (x_k hR 0 rfl) (by decide) rfl mf_X11_checkPut tw_1034 (Nat.le_of_ble_eq_true rfl) (Nat.le_of_ble_eq_true rfl) hl.1 (Nat.le_of_ble_eq_true rfl) dX11_score_7 ⟨Nat.le_of_ble_eq_true rfl, Nat.le_of_ble_eq_true rfl⟩ (x_thx ht2) (Nat.le_of_ble_eq_true rfl) (Nat.le_of_ble_eq_true rfl) (fun hs2 H locs hR hS => ?_)
  have hf := hf () hs2
  refine lv_aload_n hx hb dX11_score_10 rfl (lv_at hl 0 rfl) ?_
  refine gf_11_1 C hR (x_k hR 0 rfl) tw_496 dX11_score_11 ?_
  refine gf_7_5 C hR (x_k hR 9 rfl) tw_305 dX11_score_14 ?_
  refine lv_iload_n hx hb dX11_score_17 rfl (lv_at hl 2 rfl) ?_
  obtain ⟨g3, hf⟩ := x_gd hf
  refine x_paald C hR (x_k1 (x_k hR 13 rfl)) (x_k2 (x_k hR 13 rfl) g3) dX11_score_18 ?_
  refine lv_astore_n (lv' := [(3, _), (0, _), (1, _), (2, _)]) hx hb dX11_score_19 rfl hl (Nat.le_of_ble_eq_true rfl) rfl (fun ls hl => ?_)
  refine lv_aload_n hx hb dX11_score_20 rfl (lv_at hl 1 rfl) ?_
  refine gf_11_2 C hR (x_k hR 0 rfl) tw_497 dX11_score_21 ?_
  refine lv_aload_n hx hb dX11_score_24 rfl (lv_at hl 1 rfl) ?_
  refine gf_11_1 C hR (x_k hR 0 rfl) tw_496 dX11_score_25 ?_
  refine gf_7_11 C hR (x_k hR 9 rfl) tw_320 dX11_score_28 ?_
  refine lv_iload_n hx hb dX11_score_31 rfl (lv_at hl 2 rfl) ?_
  obtain ⟨g4, hf⟩ := x_gd hf
  refine x_taald C hR (x_k1 (x_k hR 15 rfl)) (x_k2 (x_k hR 15 rfl) g4) dX11_score_32 ?_
  refine lv_aload_n hx hb dX11_score_33 rfl (lv_at hl 0 rfl) ?_
  obtain ⟨v_5, ev_5, hf⟩ := x_bd hf
  refine x_cVi0 C hR hS (S_X2_rightOnes (x_kP hR (x_k hR 13 rfl) g3) ev_5) (x_kP hR (x_k hR 13 rfl) g3) (by decide) rfl mf_X2_rightOnes tw_1234 (Nat.le_of_ble_eq_true rfl) (Nat.le_of_ble_eq_true rfl) hl.1 (by generalize (h2.2.2 (oX O + 15) v1.toNatClampNeg) = o9; cases o9 <;> exact Nat.le_of_ble_eq_true rfl) dX11_score_34 ⟨Nat.le_of_ble_eq_true rfl, Nat.le_of_ble_eq_true rfl⟩ (fun H locs hR hS => ?_)
  refine lv_aload_n hx hb dX11_score_37 rfl (lv_at hl 0 rfl) ?_
  obtain ⟨v_6, ev_6, hf⟩ := x_bd hf
  refine x_cVi0 C hR hS (S_X2_blanks (x_kP hR (x_k hR 13 rfl) g3) ev_6) (x_kP hR (x_k hR 13 rfl) g3) (by decide) rfl mf_X2_blanks tw_1270 (Nat.le_of_ble_eq_true rfl) (Nat.le_of_ble_eq_true rfl) hl.1 (by generalize (h2.2.2 (oX O + 15) v1.toNatClampNeg) = o9; cases o9 <;> exact Nat.le_of_ble_eq_true rfl) dX11_score_38 ⟨Nat.le_of_ble_eq_true rfl, Nat.le_of_ble_eq_true rfl⟩ (fun H locs hR hS => ?_)
  refine lv_aload_n hx hb dX11_score_41 rfl (lv_at hl 0 rfl) ?_
  refine gf_2_2 C hR (x_kP hR (x_k hR 13 rfl) g3) tw_256 dX11_score_42 ?_
  obtain ⟨q7, eq7, hf⟩ := x_bd hf
  refine x_cVl4 C hR hS (S_X9_scoreOf (x_kT hR (x_k hR 15 rfl)) eq7) (x_k hR 43 rfl) (by decide) rfl mf_X9_scoreOf tw_1274 (Nat.le_of_ble_eq_true rfl) (Nat.le_of_ble_eq_true rfl) hl.1 (Nat.le_of_ble_eq_true rfl) dX11_score_45 ⟨Nat.le_of_ble_eq_true rfl, Nat.le_of_ble_eq_true rfl⟩ (fun H locs hR hS => ?_)
  refine lv_l2i hx hb dX11_score_48 rfl ?_
  cases hf
  exact xx_iret C hR hS (Nat.le_of_ble_eq_true rfl) (Nat.le_of_ble_eq_true rfl) dX11_score_49
def f_X11_fits_16 (K : XK) (x : Nat) (h : XH) : Option ((Nat ⊕ Int32) × XH) := some (.inl 1, h)
def f_X11_fits_49 (K : XK) (x : Nat) : Nat → XH → Int32 → Int32 → Int32 → Int32 → Int32 → Option ((Nat ⊕ Int32) × XH)
  | 0, _, _, _, _, _, _ => none
  | n + 1, h, v1, v2, v3, v4, v5 => if (h.1 (x + 9) 8) ≤ v5 then some (.inr v4, h) else if x_b v5 3 = true then Option.bind (f_X5_sumAt K x h (h.2.2 (x + 14) v5.toNatClampNeg) v1 (h.1 (x + 9) 7)) (fun q5 => f_X11_fits_49 K x n q5.2 v1 v2 v3 (if v2 < (f_J9_abs_0f7a4 q5.2 (q5.1 - v3)) then v4 else (v4 ||| (x_shl 1 v5))) (v5 + 1)) else none
def f_X11_fits (K : XK) (x : Nat) (h : XH) (v1 : Int32) (v2 : Int32) : Option ((Nat ⊕ Int32) × XH) := x_xb (f_X11_checkPut x h v1) (fun _ h1 => if v2 < 0 then f_X11_fits_16 K x h1 else if v2 ≤ 5200 then if x_b v1 8 = true then Option.bind (f_X2_rightOnes ((x + 13) + 6 + 3 * v1.toNatClampNeg) h1) (fun v_3 => f_X11_fits_49 K x x_FU h1 v1 v2 (100 * v_3) 0 0) else none else f_X11_fits_16 K x h1)
set_option maxRecDepth 20000 in
theorem B_X11_fits_16 {p : Program} {l : Launch} {e : Env} {s : State} {m : MethodId} {args : Array Value} {below : List Frame} {meth : Method} {c : Code} {O : XO} {K : XK} {r : Nat ⊕ Int32} {h' : XH}   (C : x_C p s m args meth c O cX11_fits 6 RX11 (some .int))   (hst : l.stackTraces = false) (ls : Array Slot) (H : Heap) (locs : List Loc) (h : XH) (hl : lv_has ls 6 []) (hR : x_R O K h H) (hS : va_S (oA O) s.heap H locs) (hf : f_X11_fits_16 K (oX O) h = some (r, h')) : W p l e (x_rmX 8 153 3 18) s m args below meth c H locs 2 12 (vx_MQ below (x_XQ O K h' (x_rv x_gi r)) (x_XX O K h' (x_rv x_gi r)) args s 3 18 (oA O)) (F0 m 16 ls []) := by
  have hx := C.1
  have hb := C.2.1
  rw [f_X11_fits_16] at hf
  cases hf
  exact x_thrW tf_1 C hR hS hst hl.1 (xs_33 C) dX11_fits_16 dX11_fits_19 dX11_fits_20 dX11_fits_23 dX11_fits_26 (Nat.le_of_ble_eq_true rfl) (by decide) (Nat.le_of_ble_eq_true rfl) (Nat.le_of_ble_eq_true rfl) (Nat.le_of_ble_eq_true rfl) (Nat.le_of_ble_eq_true rfl)
set_option maxRecDepth 20000 in
theorem B_X11_fits_49 {p : Program} {l : Launch} {e : Env} {s : State} {m : MethodId} {args : Array Value} {below : List Frame} {meth : Method} {c : Code} {O : XO} {K : XK} {r : Nat ⊕ Int32} {h' : XH}   (C : x_C p s m args meth c O cX11_fits 6 RX11 (some .int))   (hst : l.stackTraces = false) : ∀ (n : Nat) (ls : Array Slot) (H : Heap) (locs : List Loc) (h : XH) (v1 : Int32) (v2 : Int32) (v3 : Int32) (v4 : Int32) (v5 : Int32) (hl : lv_has ls 6 [(0, .ref (oX O)), (1, .int v1), (2, .int v2), (3, .int v3), (4, .int v4), (5, .int v5)]) (hR : x_R O K h H) (hS : va_S (oA O) s.heap H locs) (hf : f_X11_fits_49 K (oX O) n h v1 v2 v3 v4 v5 = some (r, h')), W p l e (x_rmX 8 153 3 18) s m args below meth c H locs 2 12 (vx_MQ below (x_XQ O K h' (x_rv x_gi r)) (x_XX O K h' (x_rv x_gi r)) args s 3 18 (oA O)) (F0 m 49 ls []) := by
  have hx := C.1
  have hb := C.2.1
  intro n
  induction n with
  | zero =>
    intro ls H locs h v1 v2 v3 v4 v5 hl hR hS hf
    rw [f_X11_fits_49] at hf
    cases hf
  | succ n ih =>
    intro ls H locs h v1 v2 v3 v4 v5 hl hR hS hf
    rw [f_X11_fits_49] at hf
    refine lv_iload hx hb dX11_fits_49 (lv_at hl 5 rfl) ?_
    refine lv_aload_n hx hb dX11_fits_51 rfl (lv_at hl 0 rfl) ?_
    refine gf_11_1 C hR (x_k hR 0 rfl) tw_496 dX11_fits_52 ?_
    refine gf_7_8 C hR (x_k hR 9 rfl) tw_314 dX11_fits_55 ?_
    refine lv_icmp_ge (tgt := 110) hx hb dX11_fits_58 rfl (fun hc => ?_) (fun hc => ?_)
    · have hf := x_ip hc hf
      refine lv_iload hx hb dX11_fits_110 (lv_at hl 4 rfl) ?_
      cases hf
      exact xx_iret C hR hS (Nat.le_of_ble_eq_true rfl) (Nat.le_of_ble_eq_true rfl) dX11_fits_112
    · have hf := x_in hc hf
      refine lv_aload_n hx hb dX11_fits_61 rfl (lv_at hl 0 rfl) ?_
      refine gf_11_3 C hR (x_k hR 0 rfl) tw_498 dX11_fits_62 ?_
      refine lv_aload_n hx hb dX11_fits_65 rfl (lv_at hl 0 rfl) ?_
      refine gf_11_1 C hR (x_k hR 0 rfl) tw_496 dX11_fits_66 ?_
      refine gf_7_9 C hR (x_k hR 9 rfl) tw_316 dX11_fits_69 ?_
      refine lv_iload hx hb dX11_fits_72 (lv_at hl 5 rfl) ?_
      obtain ⟨g4, hf⟩ := x_gd hf
      refine x_taald C hR (x_k1 (x_k hR 14 rfl)) (x_k2 (x_k hR 14 rfl) g4) dX11_fits_74 ?_
      refine lv_iload_n hx hb dX11_fits_75 rfl (lv_at hl 1 rfl) ?_
      refine lv_aload_n hx hb dX11_fits_76 rfl (lv_at hl 0 rfl) ?_
      refine gf_11_1 C hR (x_k hR 0 rfl) tw_496 dX11_fits_77 ?_
      refine gf_7_7 C hR (x_k hR 9 rfl) tw_312 dX11_fits_80 ?_
      obtain ⟨q5, eq5, hf⟩ := x_bd hf
      refine x_cVi3 C hR hS (S_X5_sumAt (x_kT hR (x_k hR 14 rfl)) eq5) (x_k hR 46 rfl) (by decide) rfl mf_X5_sumAt tw_1145 (Nat.le_of_ble_eq_true rfl) (Nat.le_of_ble_eq_true rfl) hl.1 (Nat.le_of_ble_eq_true rfl) dX11_fits_83 ⟨Nat.le_of_ble_eq_true rfl, Nat.le_of_ble_eq_true rfl⟩ (fun H locs hR hS => ?_)
      refine lv_iload_n hx hb dX11_fits_86 rfl (lv_at hl 3 rfl) ?_
      refine lv_isub hx hb dX11_fits_87 ?_
      refine x_cSi1 C hR hS (S_J9_abs_0f7a4  rfl) mf_J9_abs_0f7a4 tw_1286 (Nat.le_of_ble_eq_true rfl) (Nat.le_of_ble_eq_true rfl) hl.1 (Nat.le_of_ble_eq_true rfl) dX11_fits_88 ⟨Nat.le_of_ble_eq_true rfl, Nat.le_of_ble_eq_true rfl⟩ (fun H locs hR hS => ?_)
      refine lv_iload_n hx hb dX11_fits_91 rfl (lv_at hl 2 rfl) ?_
      have kM6 : ∀ (ls : Array Slot) (H : Heap) (locs : List Loc), lv_has ls 6 [(0, .ref (oX O)), (1, .int v1), (2, .int v2), (3, .int v3), (4, .int (if v2 < (f_J9_abs_0f7a4 q5.2 (q5.1 - v3)) then v4 else (v4 ||| (x_shl 1 v5)))), (5, .int v5)] → x_R O K q5.2 H → va_S (oA O) s.heap H locs → W p l e (x_rmX 8 153 3 18) s m args below meth c H locs 2 12 (vx_MQ below (x_XQ O K h' (x_rv x_gi r)) (x_XX O K h' (x_rv x_gi r)) args s 3 18 (oA O)) (F0 m 104 ls []) := by
        intro ls H locs hl hR hS
        refine lv_iinc (k := 5) (v := _ + 1) (lv' := [(5, _), (0, _), (1, _), (2, _), (3, _), (4, _)]) hx hb dX11_fits_104 hl rfl (x_inc 1 1 rfl _) (Nat.le_of_ble_eq_true rfl) rfl (fun ls hl => ?_)
        refine lv_goto (tgt := 49) hx hb dX11_fits_107 rfl ?_
        exact ih ls _ _ q5.2 _ _ _ _ _  (lv_sub hl [1, 2, 3, 4, 5, 0] rfl) hR hS hf
      refine lv_icmp_gt (tgt := 104) hx hb dX11_fits_92 rfl (fun hc => ?_) (fun hc => ?_)
      · try simp only [if_pos hc] at kM6
        exact kM6 ls _ _ (lv_sub hl [0, 1, 2, 3, 4, 5] rfl) hR hS
      · try simp only [if_neg hc] at kM6
        refine lv_iload hx hb dX11_fits_95 (lv_at hl 4 rfl) ?_
        refine lv_iconst (v := 1) hx hb dX11_fits_97 rfl ?_
        refine lv_iload hx hb dX11_fits_98 (lv_at hl 5 rfl) ?_
        refine lv_ishl hx hb dX11_fits_100 ?_
        refine lv_ior hx hb dX11_fits_101 ?_
        refine lv_istore (lv' := [(4, _), (0, _), (1, _), (2, _), (3, _), (5, _)]) hx hb dX11_fits_102 hl (Nat.le_of_ble_eq_true rfl) rfl (fun ls hl => ?_)
        exact kM6 ls _ _ (lv_sub hl [1, 2, 3, 4, 0, 5] rfl) hR hS
set_option maxRecDepth 20000 in
theorem S_X11_fits {l : Launch} {O : XO} {K : XK} {h : XH} {v1 : Int32} {v2 : Int32}  {r : Nat ⊕ Int32} {h' : XH} (hst : l.stackTraces = false) (hf : f_X11_fits K (oX O) h v1 v2 = some (r, h')) : x_MX l O K yX11_fits cX11_fits 6 (some .int) 8 153 3 18 h [.ref (oX O), .int v1, .int v2] (x_rv x_gi r) h' := by
  refine x_enterX (by decide) (Nat.le_of_ble_eq_true rfl) (fun p e s m args below meth c C hR ls hl => ?_)
  have hS : va_S (oA O) s.heap s.heap [] := va_S.rf
  have hx := C.1
  have hb := C.2.1
  have hl : lv_has ls 6 [(0, .ref (oX O)), (1, .int v1), (2, .int v2)] := hl
  rw [f_X11_fits] at hf
  refine lv_aload_n hx hb dX11_fits_0 rfl (lv_at hl 0 rfl) ?_
  refine lv_iload_n hx hb dX11_fits_1 rfl (lv_at hl 1 rfl) ?_
  obtain ⟨s1_, h1, eh1, ht1, hf⟩ := x_xbd hf
  refine x_xVv1 C hR hS (S_X11_checkPut hst eh1) (x_k hR 0 rfl) (by decide) rfl mf_X11_checkPut tw_1034 (Nat.le_of_ble_eq_true rfl) (Nat.le_of_ble_eq_true rfl) hl.1 (Nat.le_of_ble_eq_true rfl) dX11_fits_2 ⟨Nat.le_of_ble_eq_true rfl, Nat.le_of_ble_eq_true rfl⟩ (x_thx ht1) (Nat.le_of_ble_eq_true rfl) (Nat.le_of_ble_eq_true rfl) (fun hs1 H locs hR hS => ?_)
  have hf := hf () hs1
  refine lv_iload_n hx hb dX11_fits_5 rfl (lv_at hl 2 rfl) ?_
  refine lv_if_lt (tgt := 16) hx hb dX11_fits_6 rfl (fun hc => ?_) (fun hc => ?_)
  · have hf := x_ip hc hf
    exact B_X11_fits_16  C  hst  ls _ _ h1  (lv_sub hl [] rfl) hR hS hf
  · have hf := x_in hc hf
    refine lv_iload_n hx hb dX11_fits_9 rfl (lv_at hl 2 rfl) ?_
    refine lv_sipush (v := 5200) hx hb dX11_fits_10 rfl ?_
    refine lv_icmp_le (tgt := 27) hx hb dX11_fits_13 rfl (fun hc => ?_) (fun hc => ?_)
    · have hf := x_ip hc hf
      refine lv_bipush (v := 100) hx hb dX11_fits_27 rfl ?_
      refine lv_aload_n hx hb dX11_fits_29 rfl (lv_at hl 0 rfl) ?_
      refine gf_11_1 C hR (x_k hR 0 rfl) tw_496 dX11_fits_30 ?_
      refine gf_7_5 C hR (x_k hR 9 rfl) tw_305 dX11_fits_33 ?_
      refine lv_iload_n hx hb dX11_fits_36 rfl (lv_at hl 1 rfl) ?_
      obtain ⟨g2, hf⟩ := x_gd hf
      refine x_paald C hR (x_k1 (x_k hR 13 rfl)) (x_k2 (x_k hR 13 rfl) g2) dX11_fits_37 ?_
      obtain ⟨v_3, ev_3, hf⟩ := x_bd hf
      refine x_cVi0 C hR hS (S_X2_rightOnes (x_kP hR (x_k hR 13 rfl) g2) ev_3) (x_kP hR (x_k hR 13 rfl) g2) (by decide) rfl mf_X2_rightOnes tw_1234 (Nat.le_of_ble_eq_true rfl) (Nat.le_of_ble_eq_true rfl) hl.1 (Nat.le_of_ble_eq_true rfl) dX11_fits_38 ⟨Nat.le_of_ble_eq_true rfl, Nat.le_of_ble_eq_true rfl⟩ (fun H locs hR hS => ?_)
      refine lv_imul hx hb dX11_fits_41 ?_
      refine lv_istore_n (lv' := [(3, _), (0, _), (1, _), (2, _)]) hx hb dX11_fits_42 rfl hl (Nat.le_of_ble_eq_true rfl) rfl (fun ls hl => ?_)
      refine lv_iconst (v := 0) hx hb dX11_fits_43 rfl ?_
      refine lv_istore (lv' := [(4, _), (3, _), (0, _), (1, _), (2, _)]) hx hb dX11_fits_44 hl (Nat.le_of_ble_eq_true rfl) rfl (fun ls hl => ?_)
      refine lv_iconst (v := 0) hx hb dX11_fits_46 rfl ?_
      refine lv_istore (lv' := [(5, _), (4, _), (3, _), (0, _), (1, _), (2, _)]) hx hb dX11_fits_47 hl (Nat.le_of_ble_eq_true rfl) rfl (fun ls hl => ?_)
      exact B_X11_fits_49  C  hst x_FU ls _ _ h1 _ _ _ _ _  (lv_sub hl [3, 4, 5, 2, 1, 0] rfl) hR hS hf
    · have hf := x_in hc hf
      exact B_X11_fits_16  C  hst  ls _ _ h1  (lv_sub hl [] rfl) hR hS hf
def f_X11_lacks (x : Nat) (h : XH) (v1 : Int32) (v2 : Int32) : Option ((Nat ⊕ Int32) × XH) := x_xb (f_X11_checkPut x h v1) (fun _ h1 => if (-1) ≤ v2 then if x_b v1 8 = true then if v2 = (-1) then Option.bind (f_X2_lackCount ((x + 13) + 6 + 3 * v1.toNatClampNeg) h1) (fun v_4 => some (.inr v_4, h1)) else Option.bind (f_X2_lackAt ((x + 13) + 6 + 3 * v1.toNatClampNeg) h1 v2) (fun v_3 => some (.inr v_3, h1)) else none else some (.inl 1, h1))
set_option maxRecDepth 20000 in
theorem S_X11_lacks {l : Launch} {O : XO} {K : XK} {h : XH} {v1 : Int32} {v2 : Int32}  {r : Nat ⊕ Int32} {h' : XH} (hst : l.stackTraces = false) (hf : f_X11_lacks (oX O) h v1 v2 = some (r, h')) : x_MX l O K yX11_lacks cX11_lacks 4 (some .int) 8 132 3 18 h [.ref (oX O), .int v1, .int v2] (x_rv x_gi r) h' := by
  refine x_enterX (by decide) (Nat.le_of_ble_eq_true rfl) (fun p e s m args below meth c C hR ls hl => ?_)
  have hS : va_S (oA O) s.heap s.heap [] := va_S.rf
  have hx := C.1
  have hb := C.2.1
  have hl : lv_has ls 4 [(0, .ref (oX O)), (1, .int v1), (2, .int v2)] := hl
  rw [f_X11_lacks] at hf
  refine lv_aload_n hx hb dX11_lacks_0 rfl (lv_at hl 0 rfl) ?_
  refine lv_iload_n hx hb dX11_lacks_1 rfl (lv_at hl 1 rfl) ?_
  obtain ⟨s1_, h1, eh1, ht1, hf⟩ := x_xbd hf
  refine x_xVv1 C hR hS (S_X11_checkPut hst eh1) (x_k hR 0 rfl) (by decide) rfl mf_X11_checkPut tw_1034 (Nat.le_of_ble_eq_true rfl) (Nat.le_of_ble_eq_true rfl) hl.1 (Nat.le_of_ble_eq_true rfl) dX11_lacks_2 ⟨Nat.le_of_ble_eq_true rfl, Nat.le_of_ble_eq_true rfl⟩ (x_thx ht1) (Nat.le_of_ble_eq_true rfl) (Nat.le_of_ble_eq_true rfl) (fun hs1 H locs hR hS => ?_)
  have hf := hf () hs1
  refine lv_iload_n hx hb dX11_lacks_5 rfl (lv_at hl 2 rfl) ?_
  refine lv_iconst (v := (-1)) hx hb dX11_lacks_6 rfl ?_
  refine lv_icmp_ge (tgt := 21) hx hb dX11_lacks_7 rfl (fun hc => ?_) (fun hc => ?_)
  · have hf := x_ip hc hf
    refine lv_aload_n hx hb dX11_lacks_21 rfl (lv_at hl 0 rfl) ?_
    refine gf_11_1 C hR (x_k hR 0 rfl) tw_496 dX11_lacks_22 ?_
    refine gf_7_5 C hR (x_k hR 9 rfl) tw_305 dX11_lacks_25 ?_
    refine lv_iload_n hx hb dX11_lacks_28 rfl (lv_at hl 1 rfl) ?_
    obtain ⟨g2, hf⟩ := x_gd hf
    refine x_paald C hR (x_k1 (x_k hR 13 rfl)) (x_k2 (x_k hR 13 rfl) g2) dX11_lacks_29 ?_
    refine lv_astore_n (lv' := [(3, _), (0, _), (1, _), (2, _)]) hx hb dX11_lacks_30 rfl hl (Nat.le_of_ble_eq_true rfl) rfl (fun ls hl => ?_)
    refine lv_iload_n hx hb dX11_lacks_31 rfl (lv_at hl 3 rfl) ?_
    refine lv_iconst (v := (-1)) hx hb dX11_lacks_32 rfl ?_
    refine lv_icmp_ne (tgt := 43) hx hb dX11_lacks_33 rfl (fun hc => ?_) (fun hc => ?_)
    · have hf := x_in hc hf
      refine lv_aload_n hx hb dX11_lacks_43 rfl (lv_at hl 0 rfl) ?_
      refine lv_iload_n hx hb dX11_lacks_44 rfl (lv_at hl 3 rfl) ?_
      obtain ⟨v_3, ev_3, hf⟩ := x_bd hf
      refine x_cVi1 C hR hS (S_X2_lackAt (x_kP hR (x_k hR 13 rfl) g2) ev_3) (x_kP hR (x_k hR 13 rfl) g2) (by decide) rfl mf_X2_lackAt tw_1305 (Nat.le_of_ble_eq_true rfl) (Nat.le_of_ble_eq_true rfl) hl.1 (Nat.le_of_ble_eq_true rfl) dX11_lacks_45 ⟨Nat.le_of_ble_eq_true rfl, Nat.le_of_ble_eq_true rfl⟩ (fun H locs hR hS => ?_)
      cases hf
      exact xx_iret C hR hS (Nat.le_of_ble_eq_true rfl) (Nat.le_of_ble_eq_true rfl) dX11_lacks_48
    · have hf := x_ip hc hf
      refine lv_aload_n hx hb dX11_lacks_36 rfl (lv_at hl 0 rfl) ?_
      obtain ⟨v_4, ev_4, hf⟩ := x_bd hf
      refine x_cVi0 C hR hS (S_X2_lackCount (x_kP hR (x_k hR 13 rfl) g2) ev_4) (x_kP hR (x_k hR 13 rfl) g2) (by decide) rfl mf_X2_lackCount tw_1297 (Nat.le_of_ble_eq_true rfl) (Nat.le_of_ble_eq_true rfl) hl.1 (Nat.le_of_ble_eq_true rfl) dX11_lacks_37 ⟨Nat.le_of_ble_eq_true rfl, Nat.le_of_ble_eq_true rfl⟩ (fun H locs hR hS => ?_)
      refine lv_goto (tgt := 48) hx hb dX11_lacks_40 rfl ?_
      cases hf
      exact xx_iret C hR hS (Nat.le_of_ble_eq_true rfl) (Nat.le_of_ble_eq_true rfl) dX11_lacks_48
  · have hf := x_in hc hf
    cases hf
    exact x_thrW tf_1 C hR hS hst hl.1 (xs_34 C) dX11_lacks_10 dX11_lacks_13 dX11_lacks_14 dX11_lacks_17 dX11_lacks_20 (Nat.le_of_ble_eq_true rfl) (by decide) (Nat.le_of_ble_eq_true rfl) (Nat.le_of_ble_eq_true rfl) (Nat.le_of_ble_eq_true rfl) (Nat.le_of_ble_eq_true rfl)
def f_X11_guess_19 (K : XK) (x : Nat) (h : XH) : Option ((Nat ⊕ Int32) × XH) := some (.inl 4, h)
def f_X11_guess (K : XK) (x : Nat) (h : XH) (v1 : Int32) (v2 : Int32) (v3 : Int32) : Option ((Nat ⊕ Int32) × XH) := x_xb (f_X11_checkRule x h v1) (fun _ h1 => x_xb (f_X11_checkPut x h1 v2) (fun _ h2 => if v3 < 0 then f_X11_guess_19 K x h2 else if v3 ≤ 2 then if x_b v1 3 = true then if x_b v2 8 = true then Option.bind (f_X1_weigh K x h2 (h2.2.2 (x + 15) v1.toNatClampNeg) ((x + 13) + 6 + 3 * v2.toNatClampNeg)) (fun h5 => if v3 = 0 then some (.inr (h5.1 (x + 51) 3), h5) else Option.bind (f_X11_commonPart h5 (h5.2.1 (x + 51) 4) (h5.2.1 (x + 51) 5)) (fun v_6 => if v_6 = 0 then none else some (.inr (((if v3 = 1 then (h5.2.1 (x + 51) 4) else (h5.2.1 (x + 51) 5)) / v_6).toInt32), h5))) else none else none else f_X11_guess_19 K x h2))
set_option maxRecDepth 20000 in
theorem B_X11_guess_19 {p : Program} {l : Launch} {e : Env} {s : State} {m : MethodId} {args : Array Value} {below : List Frame} {meth : Method} {c : Code} {O : XO} {K : XK} {r : Nat ⊕ Int32} {h' : XH}   (C : x_C p s m args meth c O cX11_guess 6 RX11 (some .int))   (hst : l.stackTraces = false) (ls : Array Slot) (H : Heap) (locs : List Loc) (h : XH) (hl : lv_has ls 6 []) (hR : x_R O K h H) (hS : va_S (oA O) s.heap H locs) (hf : f_X11_guess_19 K (oX O) h = some (r, h')) : W p l e (x_rmX 9 234 4 24) s m args below meth c H locs 3 18 (vx_MQ below (x_XQ O K h' (x_rv x_gi r)) (x_XX O K h' (x_rv x_gi r)) args s 4 24 (oA O)) (F0 m 19 ls []) := by
  have hx := C.1
  have hb := C.2.1
  rw [f_X11_guess_19] at hf
  cases hf
  exact x_thr4W tf_4 C hR hS hst hl.1 (xs_35 C) dX11_guess_19 dX11_guess_22 dX11_guess_23 dX11_guess_26 dX11_guess_29 (Nat.le_of_ble_eq_true rfl) (by decide) (Nat.le_of_ble_eq_true rfl) (Nat.le_of_ble_eq_true rfl) (Nat.le_of_ble_eq_true rfl) (Nat.le_of_ble_eq_true rfl)
set_option maxRecDepth 20000 in
theorem S_X11_guess {l : Launch} {O : XO} {K : XK} {h : XH} {v1 : Int32} {v2 : Int32} {v3 : Int32}  {r : Nat ⊕ Int32} {h' : XH} (hst : l.stackTraces = false) (hf : f_X11_guess K (oX O) h v1 v2 v3 = some (r, h')) : x_MX l O K yX11_guess cX11_guess 6 (some .int) 9 234 4 24 h [.ref (oX O), .int v1, .int v2, .int v3] (x_rv x_gi r) h' := by
  refine x_enterX (by decide) (Nat.le_of_ble_eq_true rfl) (fun p e s m args below meth c C hR ls hl => ?_)
  have hS : va_S (oA O) s.heap s.heap [] := va_S.rf
  have hx := C.1
  have hb := C.2.1
  have hl : lv_has ls 6 [(0, .ref (oX O)), (1, .int v1), (2, .int v2), (3, .int v3)] := hl
  rw [f_X11_guess] at hf
  refine lv_aload_n hx hb dX11_guess_0 rfl (lv_at hl 0 rfl) ?_
  refine lv_iload_n hx hb dX11_guess_1 rfl (lv_at hl 1 rfl) ?_
  obtain ⟨s1_, h1, eh1, ht1, hf⟩ := x_xbd hf
  refine x_xVv1 C hR hS (S_X11_checkRule hst eh1) (x_k hR 0 rfl) (by decide) rfl mf_X11_checkRule tw_1265 (Nat.le_of_ble_eq_true rfl) (Nat.le_of_ble_eq_true rfl) hl.1 (Nat.le_of_ble_eq_true rfl) dX11_guess_2 ⟨Nat.le_of_ble_eq_true rfl, Nat.le_of_ble_eq_true rfl⟩ (x_thx ht1) (Nat.le_of_ble_eq_true rfl) (Nat.le_of_ble_eq_true rfl) (fun hs1 H locs hR hS => ?_)
  have hf := hf () hs1
  refine lv_aload_n hx hb dX11_guess_5 rfl (lv_at hl 0 rfl) ?_
  refine lv_iload_n hx hb dX11_guess_6 rfl (lv_at hl 2 rfl) ?_
  obtain ⟨s2_, h2, eh2, ht2, hf⟩ := x_xbd hf
  refine x_xVv1 C hR hS (S_X11_checkPut hst eh2) (x_k hR 0 rfl) (by decide) rfl mf_X11_checkPut tw_1034 (Nat.le_of_ble_eq_true rfl) (Nat.le_of_ble_eq_true rfl) hl.1 (Nat.le_of_ble_eq_true rfl) dX11_guess_7 ⟨Nat.le_of_ble_eq_true rfl, Nat.le_of_ble_eq_true rfl⟩ (x_thx ht2) (Nat.le_of_ble_eq_true rfl) (Nat.le_of_ble_eq_true rfl) (fun hs2 H locs hR hS => ?_)
  have hf := hf () hs2
  refine lv_iload_n hx hb dX11_guess_10 rfl (lv_at hl 3 rfl) ?_
  refine lv_if_lt (tgt := 19) hx hb dX11_guess_11 rfl (fun hc => ?_) (fun hc => ?_)
  · have hf := x_ip hc hf
    exact B_X11_guess_19  C  hst  ls _ _ h2  (lv_sub hl [] rfl) hR hS hf
  · have hf := x_in hc hf
    refine lv_iload_n hx hb dX11_guess_14 rfl (lv_at hl 3 rfl) ?_
    refine lv_iconst (v := 2) hx hb dX11_guess_15 rfl ?_
    refine lv_icmp_le (tgt := 30) hx hb dX11_guess_16 rfl (fun hc => ?_) (fun hc => ?_)
    · have hf := x_ip hc hf
      refine lv_aload_n hx hb dX11_guess_30 rfl (lv_at hl 0 rfl) ?_
      refine gf_11_5 C hR (x_k hR 0 rfl) tw_500 dX11_guess_31 ?_
      refine lv_aload_n hx hb dX11_guess_34 rfl (lv_at hl 0 rfl) ?_
      refine gf_11_1 C hR (x_k hR 0 rfl) tw_496 dX11_guess_35 ?_
      refine gf_7_11 C hR (x_k hR 9 rfl) tw_320 dX11_guess_38 ?_
      refine lv_iload_n hx hb dX11_guess_41 rfl (lv_at hl 1 rfl) ?_
      obtain ⟨g3, hf⟩ := x_gd hf
      refine x_taald C hR (x_k1 (x_k hR 15 rfl)) (x_k2 (x_k hR 15 rfl) g3) dX11_guess_42 ?_
      refine lv_aload_n hx hb dX11_guess_43 rfl (lv_at hl 0 rfl) ?_
      refine gf_11_1 C hR (x_k hR 0 rfl) tw_496 dX11_guess_44 ?_
      refine gf_7_5 C hR (x_k hR 9 rfl) tw_305 dX11_guess_47 ?_
      refine lv_iload_n hx hb dX11_guess_50 rfl (lv_at hl 2 rfl) ?_
      obtain ⟨g4, hf⟩ := x_gd hf
      refine x_paald C hR (x_k1 (x_k hR 13 rfl)) (x_k2 (x_k hR 13 rfl) g4) dX11_guess_51 ?_
      obtain ⟨h5, eh5, hf⟩ := x_bd hf
      refine x_cVv2 C hR hS (S_X1_weigh (x_kT hR (x_k hR 15 rfl)) (x_kP hR (x_k hR 13 rfl) g4) eh5) (x_k hR 51 rfl) (by decide) rfl mf_X1_weigh tw_1317 (Nat.le_of_ble_eq_true rfl) (Nat.le_of_ble_eq_true rfl) hl.1 (Nat.le_of_ble_eq_true rfl) dX11_guess_52 ⟨Nat.le_of_ble_eq_true rfl, Nat.le_of_ble_eq_true rfl⟩ (fun H locs hR hS => ?_)
      refine lv_iload_n hx hb dX11_guess_55 rfl (lv_at hl 3 rfl) ?_
      refine lv_if_ne (tgt := 67) hx hb dX11_guess_56 rfl (fun hc => ?_) (fun hc => ?_)
      · have hf := x_in hc hf
        refine lv_aload_n hx hb dX11_guess_67 rfl (lv_at hl 0 rfl) ?_
        refine gf_11_5 C hR (x_k hR 0 rfl) tw_500 dX11_guess_68 ?_
        refine gf_1_4 C hR (x_k hR 51 rfl) tw_428 dX11_guess_71 ?_
        refine lv_aload_n hx hb dX11_guess_74 rfl (lv_at hl 0 rfl) ?_
        refine gf_11_5 C hR (x_k hR 0 rfl) tw_500 dX11_guess_75 ?_
        refine gf_1_5 C hR (x_k hR 51 rfl) tw_430 dX11_guess_78 ?_
        obtain ⟨v_6, ev_6, hf⟩ := x_bd hf
        refine x_cSl2 C hR hS (S_X11_commonPart  ev_6) mf_X11_commonPart tw_1247 (Nat.le_of_ble_eq_true rfl) (Nat.le_of_ble_eq_true rfl) hl.1 (Nat.le_of_ble_eq_true rfl) dX11_guess_81 ⟨Nat.le_of_ble_eq_true rfl, Nat.le_of_ble_eq_true rfl⟩ (fun H locs hR hS => ?_)
        refine lv_lstore (lv' := [(4, _), (0, _), (1, _), (2, _), (3, _)]) hx hb dX11_guess_84 hl (Nat.le_of_ble_eq_true rfl) rfl (fun ls hl => ?_)
        refine lv_iload_n hx hb dX11_guess_86 rfl (lv_at hl 4 rfl) ?_
        refine lv_iconst (v := 1) hx hb dX11_guess_87 rfl ?_
        have kM7 : ∀ (ls : Array Slot) (H : Heap) (locs : List Loc), lv_has ls 6 [(4, .long v_6)] → x_R O K h5 H → va_S (oA O) s.heap H locs → W p l e (x_rmX 9 234 4 24) s m args below meth c H locs 3 18 (vx_MQ below (x_XQ O K h' (x_rv x_gi r)) (x_XX O K h' (x_rv x_gi r)) args s 4 24 (oA O)) (F0 m 108 ls [.long (if v3 = 1 then (h5.2.1 (oX O + 51) 4) else (h5.2.1 (oX O + 51) 5))]) := by
          intro ls H locs hl hR hS
          refine lv_lload hx hb dX11_guess_108 (lv_at hl 0 rfl) ?_
          obtain ⟨g8, hf⟩ := x_gn hf
          refine lv_ldiv hx hb dX11_guess_110 g8 ?_
          refine lv_l2i hx hb dX11_guess_111 rfl ?_
          cases hf
          exact xx_iret C hR hS (Nat.le_of_ble_eq_true rfl) (Nat.le_of_ble_eq_true rfl) dX11_guess_112
        refine lv_icmp_ne (tgt := 101) hx hb dX11_guess_88 rfl (fun hc => ?_) (fun hc => ?_)
        · try simp only [if_neg hc] at kM7
          refine lv_aload_n hx hb dX11_guess_101 rfl (lv_at hl 1 rfl) ?_
          refine gf_11_5 C hR (x_k hR 0 rfl) tw_500 dX11_guess_102 ?_
          refine gf_1_5 C hR (x_k hR 51 rfl) tw_430 dX11_guess_105 ?_
          exact kM7 ls _ _ (lv_sub hl [0] rfl) hR hS
        · try simp only [if_pos hc] at kM7
          refine lv_aload_n hx hb dX11_guess_91 rfl (lv_at hl 1 rfl) ?_
          refine gf_11_5 C hR (x_k hR 0 rfl) tw_500 dX11_guess_92 ?_
          refine gf_1_4 C hR (x_k hR 51 rfl) tw_428 dX11_guess_95 ?_
          refine lv_goto (tgt := 108) hx hb dX11_guess_98 rfl ?_
          exact kM7 ls _ _ (lv_sub hl [0] rfl) hR hS
      · have hf := x_ip hc hf
        refine lv_aload_n hx hb dX11_guess_59 rfl (lv_at hl 0 rfl) ?_
        refine gf_11_5 C hR (x_k hR 0 rfl) tw_500 dX11_guess_60 ?_
        refine gf_1_3 C hR (x_k hR 51 rfl) tw_426 dX11_guess_63 ?_
        cases hf
        exact xx_iret C hR hS (Nat.le_of_ble_eq_true rfl) (Nat.le_of_ble_eq_true rfl) dX11_guess_66
    · have hf := x_in hc hf
      exact B_X11_guess_19  C  hst  ls _ _ h2  (lv_sub hl [] rfl) hR hS hf
def f_X11_again_39 (K : XK) (x : Nat) (h : XH) : Option ((Nat ⊕ Int32) × XH) := some (.inl 1, h)
def f_X11_again_171 (k89 : XH → Int32 → Int32 → Int32 → Int32 → Int32 → Int32 → Int32 → Int32 → Int32 → Option ((Nat ⊕ Int32) × XH)) (K : XK) (x : Nat) (h : XH) (v1 : Int32) (v2 : Int32) (v3 : Int32) (v4 : Int32) (v5 : Int32) (v6 : Int32) (v7 : Int32) (v8 : Int32) (v9 : Int32) : Option ((Nat ⊕ Int32) × XH) := k89 h v1 v2 v3 v4 v5 v6 v7 v8 (v9 + 1)
def f_X11_again_89 (K : XK) (x : Nat) : Nat → XH → Int32 → Int32 → Int32 → Int32 → Int32 → Int32 → Int32 → Int32 → Int32 → Option ((Nat ⊕ Int32) × XH)
  | 0, _, _, _, _, _, _, _, _, _, _ => none
  | n + 1, h, v1, v2, v3, v4, v5, v6, v7, v8, v9 => if (x_shl 1 (h.1 (x + 9) 12)) ≤ v9 then some (.inr (if v5 = 0 then v6 else (v8 - v7)), h) else x_let ((f_J6_bitCount_0f7a4 h v9) : Int32) (fun t8 => if v3 < t8 then f_X11_again_171 (f_X11_again_89 K x n) K x h v1 v2 v3 v4 v5 v6 v7 v8 v9 else if x_b v1 3 = true then Option.bind (f_X5_sumTouched K x h (h.2.2 (x + 14) v1.toNatClampNeg) v2 v9 v4) (fun q10 => f_X11_again_171 (f_X11_again_89 K x n) K x q10.2 v1 v2 v3 v4 v5 (if v8 < q10.1 then v9 else (if q10.1 = v8 then (if (f_J6_bitCount_0f7a4 q10.2 v6) ≤ t8 then v6 else v9) else v6)) v7 (if v8 < q10.1 then q10.1 else (if q10.1 = v8 then (if (f_J6_bitCount_0f7a4 q10.2 v6) ≤ t8 then v8 else q10.1) else v8)) v9) else none)
def f_X11_again (K : XK) (x : Nat) (h : XH) (v1 : Int32) (v2 : Int32) (v3 : Int32) (v4 : Int32) (v5 : Int32) : Option ((Nat ⊕ Int32) × XH) := x_xb (f_X11_checkLaw x h v1) (fun _ h1 => x_xb (f_X11_checkPut x h1 v2) (fun _ h2 => if v3 < 0 then f_X11_again_39 K x h2 else Option.bind (f_X7_lastMoment (x + 9) h2) (fun v_3 => if v4 < v_3 then f_X11_again_39 K x h2 else if v4 < 0 then f_X11_again_39 K x h2 else if v4 ≤ 99999 then Option.bind (f_X5_forgetTouches K x h2) (fun h4 => if x_b v1 3 = true then Option.bind (f_X5_sumTouched K x h4 (h4.2.2 (x + 14) v1.toNatClampNeg) v2 0 v4) (fun q6 => f_X11_again_89 K x x_FU q6.2 v1 v2 v3 v4 v5 0 q6.1 q6.1 1) else none) else f_X11_again_39 K x h2)))
set_option maxRecDepth 20000 in
theorem B_X11_again_39 {p : Program} {l : Launch} {e : Env} {s : State} {m : MethodId} {args : Array Value} {below : List Frame} {meth : Method} {c : Code} {O : XO} {K : XK} {r : Nat ⊕ Int32} {h' : XH}   (C : x_C p s m args meth c O cX11_again 12 RX11 (some .int))   (hst : l.stackTraces = false) (ls : Array Slot) (H : Heap) (locs : List Loc) (h : XH) (hl : lv_has ls 12 []) (hR : x_R O K h H) (hS : va_S (oA O) s.heap H locs) (hf : f_X11_again_39 K (oX O) h = some (r, h')) : W p l e (x_rmX 8 157 4 24) s m args below meth c H locs 3 18 (vx_MQ below (x_XQ O K h' (x_rv x_gi r)) (x_XX O K h' (x_rv x_gi r)) args s 4 24 (oA O)) (F0 m 39 ls []) := by
  have hx := C.1
  have hb := C.2.1
  rw [f_X11_again_39] at hf
  cases hf
  exact x_thrW tf_1 C hR hS hst hl.1 (xs_38 C) dX11_again_39 dX11_again_42 dX11_again_43 dX11_again_46 dX11_again_49 (Nat.le_of_ble_eq_true rfl) (by decide) (Nat.le_of_ble_eq_true rfl) (Nat.le_of_ble_eq_true rfl) (Nat.le_of_ble_eq_true rfl) (Nat.le_of_ble_eq_true rfl)
set_option maxRecDepth 20000 in
theorem B_X11_again_171 {p : Program} {l : Launch} {e : Env} {s : State} {m : MethodId} {args : Array Value} {below : List Frame} {meth : Method} {c : Code} {O : XO} {K : XK} {r : Nat ⊕ Int32} {h' : XH}  {k89 : XH → Int32 → Int32 → Int32 → Int32 → Int32 → Int32 → Int32 → Int32 → Int32 → Option ((Nat ⊕ Int32) × XH)} (C : x_C p s m args meth c O cX11_again 12 RX11 (some .int)) (hk89 : ∀ (ls : Array Slot) (H : Heap) (locs : List Loc) (h : XH) (v1 : Int32) (v2 : Int32) (v3 : Int32) (v4 : Int32) (v5 : Int32) (v6 : Int32) (v7 : Int32) (v8 : Int32) (v9 : Int32), lv_has ls 12 [(0, .ref (oX O)), (1, .int v1), (2, .int v2), (3, .int v3), (4, .int v4), (5, .int v5), (6, .int v6), (7, .int v7), (8, .int v8), (9, .int v9)] → x_R O K h H → va_S (oA O) s.heap H locs → k89 h v1 v2 v3 v4 v5 v6 v7 v8 v9 = some (r, h') → W p l e (x_rmX 8 157 4 24) s m args below meth c H locs 3 18 (vx_MQ below (x_XQ O K h' (x_rv x_gi r)) (x_XX O K h' (x_rv x_gi r)) args s 4 24 (oA O)) (F0 m 89 ls []))  (hst : l.stackTraces = false) (ls : Array Slot) (H : Heap) (locs : List Loc) (h : XH) (v1 : Int32) (v2 : Int32) (v3 : Int32) (v4 : Int32) (v5 : Int32) (v6 : Int32) (v7 : Int32) (v8 : Int32) (v9 : Int32) (hl : lv_has ls 12 [(0, .ref (oX O)), (1, .int v1), (2, .int v2), (3, .int v3), (4, .int v4), (5, .int v5), (6, .int v6), (7, .int v7), (8, .int v8), (9, .int v9)]) (hR : x_R O K h H) (hS : va_S (oA O) s.heap H locs) (hf : f_X11_again_171 k89 K (oX O) h v1 v2 v3 v4 v5 v6 v7 v8 v9 = some (r, h')) : W p l e (x_rmX 8 157 4 24) s m args below meth c H locs 3 18 (vx_MQ below (x_XQ O K h' (x_rv x_gi r)) (x_XX O K h' (x_rv x_gi r)) args s 4 24 (oA O)) (F0 m 171 ls []) := by
  have hx := C.1
  have hb := C.2.1
  rw [f_X11_again_171] at hf
  refine lv_iinc (k := 9) (v := _ + 1) (lv' := [(9, _), (0, _), (1, _), (2, _), (3, _), (4, _), (5, _), (6, _), (7, _), (8, _)]) hx hb dX11_again_171 hl rfl (x_inc 1 1 rfl _) (Nat.le_of_ble_eq_true rfl) rfl (fun ls hl => ?_)
  refine lv_goto (tgt := 89) hx hb dX11_again_174 rfl ?_
  exact hk89 ls _ _ h _ _ _ _ _ _ _ _ _  (lv_sub hl [1, 2, 3, 4, 5, 6, 7, 8, 9, 0] rfl) hR hS hf
set_option maxRecDepth 20000 in
theorem B_X11_again_89 {p : Program} {l : Launch} {e : Env} {s : State} {m : MethodId} {args : Array Value} {below : List Frame} {meth : Method} {c : Code} {O : XO} {K : XK} {r : Nat ⊕ Int32} {h' : XH}   (C : x_C p s m args meth c O cX11_again 12 RX11 (some .int))   (hst : l.stackTraces = false) : ∀ (n : Nat) (ls : Array Slot) (H : Heap) (locs : List Loc) (h : XH) (v1 : Int32) (v2 : Int32) (v3 : Int32) (v4 : Int32) (v5 : Int32) (v6 : Int32) (v7 : Int32) (v8 : Int32) (v9 : Int32) (hl : lv_has ls 12 [(0, .ref (oX O)), (1, .int v1), (2, .int v2), (3, .int v3), (4, .int v4), (5, .int v5), (6, .int v6), (7, .int v7), (8, .int v8), (9, .int v9)]) (hR : x_R O K h H) (hS : va_S (oA O) s.heap H locs) (hf : f_X11_again_89 K (oX O) n h v1 v2 v3 v4 v5 v6 v7 v8 v9 = some (r, h')), W p l e (x_rmX 8 157 4 24) s m args below meth c H locs 3 18 (vx_MQ below (x_XQ O K h' (x_rv x_gi r)) (x_XX O K h' (x_rv x_gi r)) args s 4 24 (oA O)) (F0 m 89 ls []) := by
  have hx := C.1
  have hb := C.2.1
  intro n
  induction n with
  | zero =>
    intro ls H locs h v1 v2 v3 v4 v5 v6 v7 v8 v9 hl hR hS hf
    rw [f_X11_again_89] at hf
    cases hf
  | succ n ih =>
    intro ls H locs h v1 v2 v3 v4 v5 v6 v7 v8 v9 hl hR hS hf
    rw [f_X11_again_89] at hf
    refine lv_iload hx hb dX11_again_89 (lv_at hl 9 rfl) ?_
    refine lv_iconst (v := 1) hx hb dX11_again_91 rfl ?_
    refine lv_aload_n hx hb dX11_again_92 rfl (lv_at hl 0 rfl) ?_
    refine gf_11_1 C hR (x_k hR 0 rfl) tw_496 dX11_again_93 ?_
    refine gf_7_12 C hR (x_k hR 9 rfl) tw_323 dX11_again_96 ?_
    refine lv_ishl hx hb dX11_again_99 ?_
    refine lv_icmp_ge (tgt := 177) hx hb dX11_again_100 rfl (fun hc => ?_) (fun hc => ?_)
    · have hf := x_ip hc hf
      refine lv_iload hx hb dX11_again_177 (lv_at hl 5 rfl) ?_
      have kM7 : ∀ (ls : Array Slot) (H : Heap) (locs : List Loc), lv_has ls 12 [] → x_R O K h H → va_S (oA O) s.heap H locs → W p l e (x_rmX 8 157 4 24) s m args below meth c H locs 3 18 (vx_MQ below (x_XQ O K h' (x_rv x_gi r)) (x_XX O K h' (x_rv x_gi r)) args s 4 24 (oA O)) (F0 m 192 ls [.int (if v5 = 0 then v6 else (v8 - v7))]) := by
        intro ls H locs hl hR hS
        cases hf
        exact xx_iret C hR hS (Nat.le_of_ble_eq_true rfl) (Nat.le_of_ble_eq_true rfl) dX11_again_192
      refine lv_if_eq (tgt := 190) hx hb dX11_again_179 rfl (fun hc => ?_) (fun hc => ?_)
      · try simp only [if_pos hc] at kM7
        refine lv_iload hx hb dX11_again_190 (lv_at hl 6 rfl) ?_
        exact kM7 ls _ _ (lv_sub hl [] rfl) hR hS
      · try simp only [if_neg hc] at kM7
        refine lv_iload hx hb dX11_again_182 (lv_at hl 8 rfl) ?_
        refine lv_iload hx hb dX11_again_184 (lv_at hl 7 rfl) ?_
        refine lv_isub hx hb dX11_again_186 ?_
        refine lv_goto (tgt := 192) hx hb dX11_again_187 rfl ?_
        exact kM7 ls _ _ (lv_sub hl [] rfl) hR hS
    · have hf := x_in hc hf
      refine lv_iload hx hb dX11_again_103 (lv_at hl 9 rfl) ?_
      refine x_cSi1 C hR hS (S_J6_bitCount_0f7a4  rfl) mf_J6_bitCount_0f7a4 tw_1380 (Nat.le_of_ble_eq_true rfl) (Nat.le_of_ble_eq_true rfl) hl.1 (Nat.le_of_ble_eq_true rfl) dX11_again_105 ⟨Nat.le_of_ble_eq_true rfl, Nat.le_of_ble_eq_true rfl⟩ (fun H locs hR hS => ?_)
      obtain ⟨t8, et8, hf⟩ := x_lt hf
      refine x_nmi et8 ?_
      refine lv_istore (lv' := [(10, _), (0, _), (1, _), (2, _), (3, _), (4, _), (5, _), (6, _), (7, _), (8, _), (9, _)]) hx hb dX11_again_108 hl (Nat.le_of_ble_eq_true rfl) rfl (fun ls hl => ?_)
      refine lv_iload hx hb dX11_again_110 (lv_at hl 0 rfl) ?_
      refine lv_iload_n hx hb dX11_again_112 rfl (lv_at hl 4 rfl) ?_
      refine lv_icmp_gt (tgt := 171) hx hb dX11_again_113 rfl (fun hc => ?_) (fun hc => ?_)
      · have hf := x_ip hc hf
        exact B_X11_again_171  C ih hst  ls _ _ h _ _ _ _ _ _ _ _ _  (lv_sub hl [1, 2, 3, 4, 5, 6, 7, 8, 9, 10] rfl) hR hS hf
      · have hf := x_in hc hf
        refine lv_aload_n hx hb dX11_again_116 rfl (lv_at hl 1 rfl) ?_
        refine gf_11_3 C hR (x_k hR 0 rfl) tw_498 dX11_again_117 ?_
        refine lv_aload_n hx hb dX11_again_120 rfl (lv_at hl 1 rfl) ?_
        refine gf_11_1 C hR (x_k hR 0 rfl) tw_496 dX11_again_121 ?_
        refine gf_7_9 C hR (x_k hR 9 rfl) tw_316 dX11_again_124 ?_
        refine lv_iload_n hx hb dX11_again_127 rfl (lv_at hl 2 rfl) ?_
        obtain ⟨g9, hf⟩ := x_gd hf
        refine x_taald C hR (x_k1 (x_k hR 14 rfl)) (x_k2 (x_k hR 14 rfl) g9) dX11_again_128 ?_
        refine lv_iload_n hx hb dX11_again_129 rfl (lv_at hl 3 rfl) ?_
        refine lv_iload hx hb dX11_again_130 (lv_at hl 10 rfl) ?_
        refine lv_iload hx hb dX11_again_132 (lv_at hl 5 rfl) ?_
        obtain ⟨q10, eq10, hf⟩ := x_bd hf
        refine x_cVi4 C hR hS (S_X5_sumTouched (x_kT hR (x_k hR 14 rfl)) eq10) (x_k hR 46 rfl) (by decide) rfl mf_X5_sumTouched tw_1368 (Nat.le_of_ble_eq_true rfl) (Nat.le_of_ble_eq_true rfl) hl.1 (Nat.le_of_ble_eq_true rfl) dX11_again_134 ⟨Nat.le_of_ble_eq_true rfl, Nat.le_of_ble_eq_true rfl⟩ (fun H locs hR hS => ?_)
        refine lv_istore (lv' := [(11, _), (10, _), (0, _), (1, _), (2, _), (3, _), (4, _), (5, _), (6, _), (7, _), (8, _), (9, _)]) hx hb dX11_again_137 hl (Nat.le_of_ble_eq_true rfl) rfl (fun ls hl => ?_)
        refine lv_iload hx hb dX11_again_139 (lv_at hl 0 rfl) ?_
        refine lv_iload hx hb dX11_again_141 (lv_at hl 10 rfl) ?_
        have kM11 : ∀ (ls : Array Slot) (H : Heap) (locs : List Loc), lv_has ls 12 [(0, .ref (oX O)), (1, .int v1), (2, .int v2), (3, .int v3), (4, .int v4), (5, .int v5), (6, .int (if v8 < q10.1 then v9 else (if q10.1 = v8 then (if (f_J6_bitCount_0f7a4 q10.2 v6) ≤ t8 then v6 else v9) else v6))), (7, .int v7), (8, .int (if v8 < q10.1 then q10.1 else (if q10.1 = v8 then (if (f_J6_bitCount_0f7a4 q10.2 v6) ≤ t8 then v8 else q10.1) else v8))), (9, .int v9)] → x_R O K q10.2 H → va_S (oA O) s.heap H locs → W p l e (x_rmX 8 157 4 24) s m args below meth c H locs 3 18 (vx_MQ below (x_XQ O K h' (x_rv x_gi r)) (x_XX O K h' (x_rv x_gi r)) args s 4 24 (oA O)) (F0 m 171 ls []) := by
          intro ls H locs hl hR hS
          exact B_X11_again_171  C ih hst  ls _ _ q10.2 _ _ _ _ _ _ _ _ _  (lv_sub hl [0, 1, 2, 3, 4, 5, 6, 7, 8, 9] rfl) hR hS hf
        refine lv_icmp_gt (tgt := 163) hx hb dX11_again_143 rfl (fun hc => ?_) (fun hc => ?_)
        · try simp only [if_pos hc] at kM11
          refine lv_iload hx hb dX11_again_163 (lv_at hl 0 rfl) ?_
          refine lv_istore (lv' := [(8, _), (11, _), (10, _), (0, _), (1, _), (2, _), (3, _), (4, _), (5, _), (6, _), (7, _), (9, _)]) hx hb dX11_again_165 hl (Nat.le_of_ble_eq_true rfl) rfl (fun ls hl => ?_)
          refine lv_iload hx hb dX11_again_167 (lv_at hl 11 rfl) ?_
          refine lv_istore (lv' := [(6, _), (8, _), (11, _), (10, _), (0, _), (1, _), (2, _), (3, _), (4, _), (5, _), (7, _), (9, _)]) hx hb dX11_again_169 hl (Nat.le_of_ble_eq_true rfl) rfl (fun ls hl => ?_)
          exact kM11 ls _ _ (lv_sub hl [4, 5, 6, 7, 8, 9, 0, 10, 1, 11] rfl) hR hS
        · try simp only [if_neg hc] at kM11
          refine lv_iload hx hb dX11_again_146 (lv_at hl 0 rfl) ?_
          refine lv_iload hx hb dX11_again_148 (lv_at hl 10 rfl) ?_
          refine lv_icmp_ne (tgt := 171) hx hb dX11_again_150 rfl (fun hc => ?_) (fun hc => ?_)
          · try simp only [if_neg hc] at kM11
            exact kM11 ls _ _ (lv_sub hl [2, 3, 4, 5, 6, 7, 8, 9, 10, 11] rfl) hR hS
          · try simp only [if_pos hc] at kM11
            refine lv_iload hx hb dX11_again_153 (lv_at hl 1 rfl) ?_
            refine lv_iload hx hb dX11_again_155 (lv_at hl 8 rfl) ?_
            refine x_cSi1 C hR hS (S_J6_bitCount_0f7a4  rfl) mf_J6_bitCount_0f7a4 tw_1380 (Nat.le_of_ble_eq_true rfl) (Nat.le_of_ble_eq_true rfl) hl.1 (Nat.le_of_ble_eq_true rfl) dX11_again_157 ⟨Nat.le_of_ble_eq_true rfl, Nat.le_of_ble_eq_true rfl⟩ (fun H locs hR hS => ?_)
            refine lv_icmp_ge (tgt := 171) hx hb dX11_again_160 rfl (fun hc => ?_) (fun hc => ?_)
            · try simp only [if_pos hc] at kM11
              exact kM11 ls _ _ (lv_sub hl [2, 3, 4, 5, 6, 7, 8, 9, 10, 11] rfl) hR hS
            · try simp only [if_neg hc] at kM11
              refine lv_iload hx hb dX11_again_163 (lv_at hl 0 rfl) ?_
              refine lv_istore (lv' := [(8, _), (11, _), (10, _), (0, _), (1, _), (2, _), (3, _), (4, _), (5, _), (6, _), (7, _), (9, _)]) hx hb dX11_again_165 hl (Nat.le_of_ble_eq_true rfl) rfl (fun ls hl => ?_)
              refine lv_iload hx hb dX11_again_167 (lv_at hl 11 rfl) ?_
              refine lv_istore (lv' := [(6, _), (8, _), (11, _), (10, _), (0, _), (1, _), (2, _), (3, _), (4, _), (5, _), (7, _), (9, _)]) hx hb dX11_again_169 hl (Nat.le_of_ble_eq_true rfl) rfl (fun ls hl => ?_)
              exact kM11 ls _ _ (lv_sub hl [4, 5, 6, 7, 8, 9, 0, 10, 1, 11] rfl) hR hS
set_option maxRecDepth 20000 in
theorem S_X11_again {l : Launch} {O : XO} {K : XK} {h : XH} {v1 : Int32} {v2 : Int32} {v3 : Int32} {v4 : Int32} {v5 : Int32}  {r : Nat ⊕ Int32} {h' : XH} (hst : l.stackTraces = false) (hf : f_X11_again K (oX O) h v1 v2 v3 v4 v5 = some (r, h')) : x_MX l O K yX11_again cX11_again 12 (some .int) 8 157 4 24 h [.ref (oX O), .int v1, .int v2, .int v3, .int v4, .int v5] (x_rv x_gi r) h' := by
  refine x_enterX (by decide) (Nat.le_of_ble_eq_true rfl) (fun p e s m args below meth c C hR ls hl => ?_)
  have hS : va_S (oA O) s.heap s.heap [] := va_S.rf
  have hx := C.1
  have hb := C.2.1
  have hl : lv_has ls 12 [(0, .ref (oX O)), (1, .int v1), (2, .int v2), (3, .int v3), (4, .int v4), (5, .int v5)] := hl
  rw [f_X11_again] at hf
  refine lv_aload_n hx hb dX11_again_0 rfl (lv_at hl 0 rfl) ?_
  refine lv_iload_n hx hb dX11_again_1 rfl (lv_at hl 1 rfl) ?_
  obtain ⟨s1_, h1, eh1, ht1, hf⟩ := x_xbd hf
  refine x_xVv1 C hR hS (S_X11_checkLaw hst eh1) (x_k hR 0 rfl) (by decide) rfl mf_X11_checkLaw tw_1102 (Nat.le_of_ble_eq_true rfl) (Nat.le_of_ble_eq_true rfl) hl.1 (Nat.le_of_ble_eq_true rfl) dX11_again_2 ⟨Nat.le_of_ble_eq_true rfl, Nat.le_of_ble_eq_true rfl⟩ (x_thx ht1) (Nat.le_of_ble_eq_true rfl) (Nat.le_of_ble_eq_true rfl) (fun hs1 H locs hR hS => ?_)
  have hf := hf () hs1
  refine lv_aload_n hx hb dX11_again_5 rfl (lv_at hl 0 rfl) ?_
  refine lv_iload_n hx hb dX11_again_6 rfl (lv_at hl 2 rfl) ?_
  obtain ⟨s2_, h2, eh2, ht2, hf⟩ := x_xbd hf
  refine x_xVv1 C hR hS (S_X11_checkPut hst eh2) (x_k hR 0 rfl) (by decide) rfl mf_X11_checkPut tw_1034 (Nat.le_of_ble_eq_true rfl) (Nat.le_of_ble_eq_true rfl) hl.1 (Nat.le_of_ble_eq_true rfl) dX11_again_7 ⟨Nat.le_of_ble_eq_true rfl, Nat.le_of_ble_eq_true rfl⟩ (x_thx ht2) (Nat.le_of_ble_eq_true rfl) (Nat.le_of_ble_eq_true rfl) (fun hs2 H locs hR hS => ?_)
  have hf := hf () hs2
  refine lv_iload_n hx hb dX11_again_10 rfl (lv_at hl 3 rfl) ?_
  refine lv_if_lt (tgt := 39) hx hb dX11_again_11 rfl (fun hc => ?_) (fun hc => ?_)
  · have hf := x_ip hc hf
    exact B_X11_again_39  C  hst  ls _ _ h2  (lv_sub hl [] rfl) hR hS hf
  · have hf := x_in hc hf
    refine lv_iload hx hb dX11_again_14 (lv_at hl 4 rfl) ?_
    refine lv_aload_n hx hb dX11_again_16 rfl (lv_at hl 0 rfl) ?_
    refine gf_11_1 C hR (x_k hR 0 rfl) tw_496 dX11_again_17 ?_
    obtain ⟨v_3, ev_3, hf⟩ := x_bd hf
    refine x_cVi0 C hR hS (S_X7_lastMoment (x_k hR 9 rfl) ev_3) (x_k hR 9 rfl) (by decide) rfl mf_X7_lastMoment tw_1348 (Nat.le_of_ble_eq_true rfl) (Nat.le_of_ble_eq_true rfl) hl.1 (Nat.le_of_ble_eq_true rfl) dX11_again_20 ⟨Nat.le_of_ble_eq_true rfl, Nat.le_of_ble_eq_true rfl⟩ (fun H locs hR hS => ?_)
    refine lv_icmp_lt (tgt := 39) hx hb dX11_again_23 rfl (fun hc => ?_) (fun hc => ?_)
    · have hf := x_ip hc hf
      exact B_X11_again_39  C  hst  ls _ _ h2  (lv_sub hl [] rfl) hR hS hf
    · have hf := x_in hc hf
      refine lv_iload hx hb dX11_again_26 (lv_at hl 4 rfl) ?_
      refine lv_if_lt (tgt := 39) hx hb dX11_again_28 rfl (fun hc => ?_) (fun hc => ?_)
      · have hf := x_ip hc hf
        exact B_X11_again_39  C  hst  ls _ _ h2  (lv_sub hl [] rfl) hR hS hf
      · have hf := x_in hc hf
        refine lv_iload hx hb dX11_again_31 (lv_at hl 4 rfl) ?_
        refine lv_ldcw hx hb C.2.2.2.1 (C.2.2.2.2.1 _ tw_1352) dX11_again_33 ?_
        refine lv_icmp_le (tgt := 50) hx hb dX11_again_36 rfl (fun hc => ?_) (fun hc => ?_)
        · have hf := x_ip hc hf
          refine lv_aload_n hx hb dX11_again_50 rfl (lv_at hl 0 rfl) ?_
          refine gf_11_3 C hR (x_k hR 0 rfl) tw_498 dX11_again_51 ?_
          obtain ⟨h4, eh4, hf⟩ := x_bd hf
          refine x_cVv0 C hR hS (S_X5_forgetTouches  eh4) (x_k hR 46 rfl) (by decide) rfl mf_X5_forgetTouches tw_1363 (Nat.le_of_ble_eq_true rfl) (Nat.le_of_ble_eq_true rfl) hl.1 (Nat.le_of_ble_eq_true rfl) dX11_again_54 ⟨Nat.le_of_ble_eq_true rfl, Nat.le_of_ble_eq_true rfl⟩ (fun H locs hR hS => ?_)
          refine lv_iconst (v := 0) hx hb dX11_again_57 rfl ?_
          refine lv_istore (lv' := [(6, _), (0, _), (1, _), (2, _), (3, _), (4, _), (5, _)]) hx hb dX11_again_58 hl (Nat.le_of_ble_eq_true rfl) rfl (fun ls hl => ?_)
          refine lv_aload_n hx hb dX11_again_60 rfl (lv_at hl 1 rfl) ?_
          refine gf_11_3 C hR (x_k hR 0 rfl) tw_498 dX11_again_61 ?_
          refine lv_aload_n hx hb dX11_again_64 rfl (lv_at hl 1 rfl) ?_
          refine gf_11_1 C hR (x_k hR 0 rfl) tw_496 dX11_again_65 ?_
          refine gf_7_9 C hR (x_k hR 9 rfl) tw_316 dX11_again_68 ?_
          refine lv_iload_n hx hb dX11_again_71 rfl (lv_at hl 2 rfl) ?_
          obtain ⟨g5, hf⟩ := x_gd hf
          refine x_taald C hR (x_k1 (x_k hR 14 rfl)) (x_k2 (x_k hR 14 rfl) g5) dX11_again_72 ?_
          refine lv_iload_n hx hb dX11_again_73 rfl (lv_at hl 3 rfl) ?_
          refine lv_iconst (v := 0) hx hb dX11_again_74 rfl ?_
          refine lv_iload hx hb dX11_again_75 (lv_at hl 5 rfl) ?_
          obtain ⟨q6, eq6, hf⟩ := x_bd hf
          refine x_cVi4 C hR hS (S_X5_sumTouched (x_kT hR (x_k hR 14 rfl)) eq6) (x_k hR 46 rfl) (by decide) rfl mf_X5_sumTouched tw_1368 (Nat.le_of_ble_eq_true rfl) (Nat.le_of_ble_eq_true rfl) hl.1 (Nat.le_of_ble_eq_true rfl) dX11_again_77 ⟨Nat.le_of_ble_eq_true rfl, Nat.le_of_ble_eq_true rfl⟩ (fun H locs hR hS => ?_)
          refine lv_istore (lv' := [(7, _), (6, _), (0, _), (1, _), (2, _), (3, _), (4, _), (5, _)]) hx hb dX11_again_80 hl (Nat.le_of_ble_eq_true rfl) rfl (fun ls hl => ?_)
          refine lv_iload hx hb dX11_again_82 (lv_at hl 0 rfl) ?_
          refine lv_istore (lv' := [(8, _), (7, _), (6, _), (0, _), (1, _), (2, _), (3, _), (4, _), (5, _)]) hx hb dX11_again_84 hl (Nat.le_of_ble_eq_true rfl) rfl (fun ls hl => ?_)
          refine lv_iconst (v := 1) hx hb dX11_again_86 rfl ?_
          refine lv_istore (lv' := [(9, _), (8, _), (7, _), (6, _), (0, _), (1, _), (2, _), (3, _), (4, _), (5, _)]) hx hb dX11_again_87 hl (Nat.le_of_ble_eq_true rfl) rfl (fun ls hl => ?_)
          exact B_X11_again_89  C  hst x_FU ls _ _ q6.2 _ _ _ _ _ _ _ _ _  (lv_sub hl [4, 5, 6, 7, 8, 9, 3, 2, 1, 0] rfl) hR hS hf
        · have hf := x_in hc hf
          exact B_X11_again_39  C  hst  ls _ _ h2  (lv_sub hl [] rfl) hR hS hf
def f_X11_houses_33 (K : XK) (x : Nat) (h : XH) : Option ((Nat ⊕ Int32) × XH) := some (.inl 1, h)
def f_X11_houses_47 (K : XK) (x : Nat) : Nat → XH → Int32 → Int32 → Int32 → Int32 → Int32 → Option ((Nat ⊕ Int32) × XH)
  | 0, _, _, _, _, _, _ => none
  | n + 1, h, v1, v2, v3, v4, v5 => if 20 < v5 then some (.inr (-1), h) else if x_b v1 3 = true then if v5 = 0 then none else Option.bind (f_X5_heldByTurns K x h (h.2.2 (x + 14) v1.toNatClampNeg) ((v2 - 1) / v5) v3) (fun q5 => if q5.1 < v4 then f_X11_houses_47 K x n q5.2 v1 v2 v3 v4 (v5 + 1) else some (.inr v5, q5.2)) else none
def f_X11_houses (K : XK) (x : Nat) (h : XH) (v1 : Int32) (v2 : Int32) (v3 : Int32) (v4 : Int32) : Option ((Nat ⊕ Int32) × XH) := x_xb (f_X11_checkLaw x h v1) (fun _ h1 => x_xb (f_X11_checkSeconds x h1 v3) (fun _ h2 => if v2 < 1 then f_X11_houses_33 K x h2 else if 60 < v2 then f_X11_houses_33 K x h2 else if v4 < 0 then f_X11_houses_33 K x h2 else if v4 ≤ 100 then f_X11_houses_47 K x x_FU h2 v1 v2 v3 v4 1 else f_X11_houses_33 K x h2))
set_option maxRecDepth 20000 in
theorem B_X11_houses_33 {p : Program} {l : Launch} {e : Env} {s : State} {m : MethodId} {args : Array Value} {below : List Frame} {meth : Method} {c : Code} {O : XO} {K : XK} {r : Nat ⊕ Int32} {h' : XH}   (C : x_C p s m args meth c O cX11_houses 6 RX11 (some .int))   (hst : l.stackTraces = false) (ls : Array Slot) (H : Heap) (locs : List Loc) (h : XH) (hl : lv_has ls 6 []) (hR : x_R O K h H) (hS : va_S (oA O) s.heap H locs) (hf : f_X11_houses_33 K (oX O) h = some (r, h')) : W p l e (x_rmX 7 111 3 18) s m args below meth c H locs 2 12 (vx_MQ below (x_XQ O K h' (x_rv x_gi r)) (x_XX O K h' (x_rv x_gi r)) args s 3 18 (oA O)) (F0 m 33 ls []) := by
  have hx := C.1
  have hb := C.2.1
  rw [f_X11_houses_33] at hf
  cases hf
  exact x_thrW tf_1 C hR hS hst hl.1 (xs_39 C) dX11_houses_33 dX11_houses_36 dX11_houses_37 dX11_houses_40 dX11_houses_43 (Nat.le_of_ble_eq_true rfl) (by decide) (Nat.le_of_ble_eq_true rfl) (Nat.le_of_ble_eq_true rfl) (Nat.le_of_ble_eq_true rfl) (Nat.le_of_ble_eq_true rfl)
set_option maxRecDepth 20000 in
theorem B_X11_houses_47 {p : Program} {l : Launch} {e : Env} {s : State} {m : MethodId} {args : Array Value} {below : List Frame} {meth : Method} {c : Code} {O : XO} {K : XK} {r : Nat ⊕ Int32} {h' : XH}   (C : x_C p s m args meth c O cX11_houses 6 RX11 (some .int))   (hst : l.stackTraces = false) : ∀ (n : Nat) (ls : Array Slot) (H : Heap) (locs : List Loc) (h : XH) (v1 : Int32) (v2 : Int32) (v3 : Int32) (v4 : Int32) (v5 : Int32) (hl : lv_has ls 6 [(0, .ref (oX O)), (1, .int v1), (2, .int v2), (3, .int v3), (4, .int v4), (5, .int v5)]) (hR : x_R O K h H) (hS : va_S (oA O) s.heap H locs) (hf : f_X11_houses_47 K (oX O) n h v1 v2 v3 v4 v5 = some (r, h')), W p l e (x_rmX 7 111 3 18) s m args below meth c H locs 2 12 (vx_MQ below (x_XQ O K h' (x_rv x_gi r)) (x_XX O K h' (x_rv x_gi r)) args s 3 18 (oA O)) (F0 m 47 ls []) := by
  have hx := C.1
  have hb := C.2.1
  intro n
  induction n with
  | zero =>
    intro ls H locs h v1 v2 v3 v4 v5 hl hR hS hf
    rw [f_X11_houses_47] at hf
    cases hf
  | succ n ih =>
    intro ls H locs h v1 v2 v3 v4 v5 hl hR hS hf
    rw [f_X11_houses_47] at hf
    refine lv_iload hx hb dX11_houses_47 (lv_at hl 5 rfl) ?_
    refine lv_bipush (v := 20) hx hb dX11_houses_49 rfl ?_
    refine lv_icmp_gt (tgt := 91) hx hb dX11_houses_51 rfl (fun hc => ?_) (fun hc => ?_)
    · have hf := x_ip hc hf
      refine lv_iconst (v := (-1)) hx hb dX11_houses_91 rfl ?_
      cases hf
      exact xx_iret C hR hS (Nat.le_of_ble_eq_true rfl) (Nat.le_of_ble_eq_true rfl) dX11_houses_92
    · have hf := x_in hc hf
      refine lv_aload_n hx hb dX11_houses_54 rfl (lv_at hl 0 rfl) ?_
      refine gf_11_3 C hR (x_k hR 0 rfl) tw_498 dX11_houses_55 ?_
      refine lv_aload_n hx hb dX11_houses_58 rfl (lv_at hl 0 rfl) ?_
      refine gf_11_1 C hR (x_k hR 0 rfl) tw_496 dX11_houses_59 ?_
      refine gf_7_9 C hR (x_k hR 9 rfl) tw_316 dX11_houses_62 ?_
      refine lv_iload_n hx hb dX11_houses_65 rfl (lv_at hl 1 rfl) ?_
      obtain ⟨g3, hf⟩ := x_gd hf
      refine x_taald C hR (x_k1 (x_k hR 14 rfl)) (x_k2 (x_k hR 14 rfl) g3) dX11_houses_66 ?_
      refine lv_iload_n hx hb dX11_houses_67 rfl (lv_at hl 2 rfl) ?_
      refine lv_iconst (v := 1) hx hb dX11_houses_68 rfl ?_
      refine lv_isub hx hb dX11_houses_69 ?_
      refine lv_iload hx hb dX11_houses_70 (lv_at hl 5 rfl) ?_
      obtain ⟨g4, hf⟩ := x_gn hf
      refine lv_idiv hx hb dX11_houses_72 g4 ?_
      refine lv_iload_n hx hb dX11_houses_73 rfl (lv_at hl 3 rfl) ?_
      obtain ⟨q5, eq5, hf⟩ := x_bd hf
      refine x_cVi3 C hR hS (S_X5_heldByTurns (x_kT hR (x_k hR 14 rfl)) eq5) (x_k hR 46 rfl) (by decide) rfl mf_X5_heldByTurns tw_1389 (Nat.le_of_ble_eq_true rfl) (Nat.le_of_ble_eq_true rfl) hl.1 (Nat.le_of_ble_eq_true rfl) dX11_houses_74 ⟨Nat.le_of_ble_eq_true rfl, Nat.le_of_ble_eq_true rfl⟩ (fun H locs hR hS => ?_)
      refine lv_iload hx hb dX11_houses_77 (lv_at hl 4 rfl) ?_
      refine lv_icmp_lt (tgt := 85) hx hb dX11_houses_79 rfl (fun hc => ?_) (fun hc => ?_)
      · have hf := x_ip hc hf
        refine lv_iinc (k := 5) (v := _ + 1) (lv' := [(5, _), (0, _), (1, _), (2, _), (3, _), (4, _)]) hx hb dX11_houses_85 hl rfl (x_inc 1 1 rfl _) (Nat.le_of_ble_eq_true rfl) rfl (fun ls hl => ?_)
        refine lv_goto (tgt := 47) hx hb dX11_houses_88 rfl ?_
        exact ih ls _ _ q5.2 _ _ _ _ _  (lv_sub hl [1, 2, 3, 4, 5, 0] rfl) hR hS hf
      · have hf := x_in hc hf
        refine lv_iload hx hb dX11_houses_82 (lv_at hl 5 rfl) ?_
        cases hf
        exact xx_iret C hR hS (Nat.le_of_ble_eq_true rfl) (Nat.le_of_ble_eq_true rfl) dX11_houses_84
set_option maxRecDepth 20000 in
theorem S_X11_houses {l : Launch} {O : XO} {K : XK} {h : XH} {v1 : Int32} {v2 : Int32} {v3 : Int32} {v4 : Int32}  {r : Nat ⊕ Int32} {h' : XH} (hst : l.stackTraces = false) (hf : f_X11_houses K (oX O) h v1 v2 v3 v4 = some (r, h')) : x_MX l O K yX11_houses cX11_houses 6 (some .int) 7 111 3 18 h [.ref (oX O), .int v1, .int v2, .int v3, .int v4] (x_rv x_gi r) h' := by
  refine x_enterX (by decide) (Nat.le_of_ble_eq_true rfl) (fun p e s m args below meth c C hR ls hl => ?_)
  have hS : va_S (oA O) s.heap s.heap [] := va_S.rf
  have hx := C.1
  have hb := C.2.1
  have hl : lv_has ls 6 [(0, .ref (oX O)), (1, .int v1), (2, .int v2), (3, .int v3), (4, .int v4)] := hl
  rw [f_X11_houses] at hf
  refine lv_aload_n hx hb dX11_houses_0 rfl (lv_at hl 0 rfl) ?_
  refine lv_iload_n hx hb dX11_houses_1 rfl (lv_at hl 1 rfl) ?_
  obtain ⟨s1_, h1, eh1, ht1, hf⟩ := x_xbd hf
  refine x_xVv1 C hR hS (S_X11_checkLaw hst eh1) (x_k hR 0 rfl) (by decide) rfl mf_X11_checkLaw tw_1102 (Nat.le_of_ble_eq_true rfl) (Nat.le_of_ble_eq_true rfl) hl.1 (Nat.le_of_ble_eq_true rfl) dX11_houses_2 ⟨Nat.le_of_ble_eq_true rfl, Nat.le_of_ble_eq_true rfl⟩ (x_thx ht1) (Nat.le_of_ble_eq_true rfl) (Nat.le_of_ble_eq_true rfl) (fun hs1 H locs hR hS => ?_)
  have hf := hf () hs1
  refine lv_aload_n hx hb dX11_houses_5 rfl (lv_at hl 0 rfl) ?_
  refine lv_iload_n hx hb dX11_houses_6 rfl (lv_at hl 3 rfl) ?_
  obtain ⟨s2_, h2, eh2, ht2, hf⟩ := x_xbd hf
  refine x_xVv1 C hR hS (S_X11_checkSeconds hst eh2) (x_k hR 0 rfl) (by decide) rfl mf_X11_checkSeconds tw_995 (Nat.le_of_ble_eq_true rfl) (Nat.le_of_ble_eq_true rfl) hl.1 (Nat.le_of_ble_eq_true rfl) dX11_houses_7 ⟨Nat.le_of_ble_eq_true rfl, Nat.le_of_ble_eq_true rfl⟩ (x_thx ht2) (Nat.le_of_ble_eq_true rfl) (Nat.le_of_ble_eq_true rfl) (fun hs2 H locs hR hS => ?_)
  have hf := hf () hs2
  refine lv_iload_n hx hb dX11_houses_10 rfl (lv_at hl 2 rfl) ?_
  refine lv_iconst (v := 1) hx hb dX11_houses_11 rfl ?_
  refine lv_icmp_lt (tgt := 33) hx hb dX11_houses_12 rfl (fun hc => ?_) (fun hc => ?_)
  · have hf := x_ip hc hf
    exact B_X11_houses_33  C  hst  ls _ _ h2  (lv_sub hl [] rfl) hR hS hf
  · have hf := x_in hc hf
    refine lv_iload_n hx hb dX11_houses_15 rfl (lv_at hl 2 rfl) ?_
    refine lv_bipush (v := 60) hx hb dX11_houses_16 rfl ?_
    refine lv_icmp_gt (tgt := 33) hx hb dX11_houses_18 rfl (fun hc => ?_) (fun hc => ?_)
    · have hf := x_ip hc hf
      exact B_X11_houses_33  C  hst  ls _ _ h2  (lv_sub hl [] rfl) hR hS hf
    · have hf := x_in hc hf
      refine lv_iload hx hb dX11_houses_21 (lv_at hl 4 rfl) ?_
      refine lv_if_lt (tgt := 33) hx hb dX11_houses_23 rfl (fun hc => ?_) (fun hc => ?_)
      · have hf := x_ip hc hf
        exact B_X11_houses_33  C  hst  ls _ _ h2  (lv_sub hl [] rfl) hR hS hf
      · have hf := x_in hc hf
        refine lv_iload hx hb dX11_houses_26 (lv_at hl 4 rfl) ?_
        refine lv_bipush (v := 100) hx hb dX11_houses_28 rfl ?_
        refine lv_icmp_le (tgt := 44) hx hb dX11_houses_30 rfl (fun hc => ?_) (fun hc => ?_)
        · have hf := x_ip hc hf
          refine lv_iconst (v := 1) hx hb dX11_houses_44 rfl ?_
          refine lv_istore (lv' := [(5, _), (0, _), (1, _), (2, _), (3, _), (4, _)]) hx hb dX11_houses_45 hl (Nat.le_of_ble_eq_true rfl) rfl (fun ls hl => ?_)
          exact B_X11_houses_47  C  hst x_FU ls _ _ h2 _ _ _ _ _  (lv_sub hl [1, 2, 3, 4, 5, 0] rfl) hR hS hf
        · have hf := x_in hc hf
          exact B_X11_houses_33  C  hst  ls _ _ h2  (lv_sub hl [] rfl) hR hS hf
