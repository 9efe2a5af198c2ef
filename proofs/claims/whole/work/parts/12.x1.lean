def f_X11_per_29 (K : XK) (x : Nat) (h : XH) : Option ((Nat ⊕ Int32) × XH) := some (.inl 1, h)
def f_X11_per_125 (k49 : XH → Int32 → Int32 → Int32 → Int32 → Int32 → Int32 → Int32 → Int32 → Option ((Nat ⊕ Int32) × XH)) (K : XK) (x : Nat) (h : XH) (v1 : Int32) (v2 : Int32) (v3 : Int32) (v4 : Int32) (v5 : Int32) (v6 : Int32) (v7 : Int32) (v8 : Int32) (s0 : Int32) : Option ((Nat ⊕ Int32) × XH) := k49 h v1 v2 v3 v4 v5 (if s0 ≤ v7 then v6 else v8) (if s0 ≤ v7 then v7 else s0) (v8 + 1)
def f_X11_per_91 (k49 : XH → Int32 → Int32 → Int32 → Int32 → Int32 → Int32 → Int32 → Int32 → Option ((Nat ⊕ Int32) × XH)) (K : XK) (x : Nat) (h : XH) (v1 : Int32) (v2 : Int32) (v3 : Int32) (v4 : Int32) (v5 : Int32) (v6 : Int32) (v7 : Int32) (v8 : Int32) (s0 : Int32) : Option ((Nat ⊕ Int32) × XH) := if 1 ≤ s0 then if x_b v1 3 = true then Option.bind (f_X5_sumIfPut K x h (h.2.2 (x + 14) v1.toNatClampNeg) v2 v3 v8 s0) (fun q9 => f_X11_per_125 k49 K x q9.2 v1 v2 v3 v4 v5 v6 v7 v8 q9.1) else none else f_X11_per_125 k49 K x h v1 v2 v3 v4 v5 v6 v7 v8 (-1)
def f_X11_per_49 (K : XK) (x : Nat) : Nat → XH → Int32 → Int32 → Int32 → Int32 → Int32 → Int32 → Int32 → Int32 → Option ((Nat ⊕ Int32) × XH)
  | 0, _, _, _, _, _, _, _, _, _ => none
  | n + 1, h, v1, v2, v3, v4, v5, v6, v7, v8 => if 3 < v8 then some (.inr (if v5 = 0 then v6 else v7), h) else if x_b v2 8 = true then Option.bind (f_X2_placesBy ((x + 13) + 6 + 3 * v2.toNatClampNeg) h v8) (fun v_6 => if 1 ≤ v_6 then if v_6 = 0 then none else f_X11_per_91 (f_X11_per_49 K x n) K x h v1 v2 v3 v4 v5 v6 v7 v8 (f_J9_min_7cf53 h (v4 / v_6) 60) else f_X11_per_91 (f_X11_per_49 K x n) K x h v1 v2 v3 v4 v5 v6 v7 v8 0) else none
def f_X11_per (K : XK) (x : Nat) (h : XH) (v1 : Int32) (v2 : Int32) (v3 : Int32) (v4 : Int32) (v5 : Int32) : Option ((Nat ⊕ Int32) × XH) := x_xb (f_X11_checkLaw x h v1) (fun _ h1 => x_xb (f_X11_checkPack x h1 v2) (fun _ h2 => x_xb (f_X11_checkHouse x h2 v3) (fun _ h3 => if v4 < 1 then f_X11_per_29 K x h3 else if v4 ≤ 9999 then f_X11_per_49 K x x_FU h3 v1 v2 v3 v4 v5 (-1) (-1) 1 else f_X11_per_29 K x h3)))
set_option maxRecDepth 20000 in
theorem B_X11_per_29 {p : Program} {l : Launch} {e : Env} {s : State} {m : MethodId} {args : Array Value} {below : List Frame} {meth : Method} {c : Code} {O : XO} {K : XK} {r : Nat ⊕ Int32} {h' : XH}   (C : x_C p s m args meth c O cX11_per 12 RX11 (some .int))   (hst : l.stackTraces = false) (ls : Array Slot) (H : Heap) (locs : List Loc) (h : XH) (hl : lv_has ls 12 []) (hR : x_R O K h H) (hS : va_S (oA O) s.heap H locs) (hf : f_X11_per_29 K (oX O) h = some (r, h')) : W p l e (x_rmX 7 155 4 24) s m args below meth c H locs 3 18 (vx_MQ below (x_XQ O K h' (x_rv x_gi r)) (x_XX O K h' (x_rv x_gi r)) args s 4 24 (oA O)) (F0 m 29 ls []) := by
  have hx := C.1
  have hb := C.2.1
  rw [f_X11_per_29] at hf
  cases hf
  exact x_thrW tf_1 C hR hS hst hl.1 (xs_40 C) dX11_per_29 dX11_per_32 dX11_per_33 dX11_per_36 dX11_per_39 (Nat.le_of_ble_eq_true rfl) (by decide) (Nat.le_of_ble_eq_true rfl) (Nat.le_of_ble_eq_true rfl) (Nat.le_of_ble_eq_true rfl) (Nat.le_of_ble_eq_true rfl)
set_option maxRecDepth 20000 in
theorem B_X11_per_125 {p : Program} {l : Launch} {e : Env} {s : State} {m : MethodId} {args : Array Value} {below : List Frame} {meth : Method} {c : Code} {O : XO} {K : XK} {r : Nat ⊕ Int32} {h' : XH}  {k49 : XH → Int32 → Int32 → Int32 → Int32 → Int32 → Int32 → Int32 → Int32 → Option ((Nat ⊕ Int32) × XH)} (C : x_C p s m args meth c O cX11_per 12 RX11 (some .int)) (hk49 : ∀ (ls : Array Slot) (H : Heap) (locs : List Loc) (h : XH) (v1 : Int32) (v2 : Int32) (v3 : Int32) (v4 : Int32) (v5 : Int32) (v6 : Int32) (v7 : Int32) (v8 : Int32), lv_has ls 12 [(0, .ref (oX O)), (1, .int v1), (2, .int v2), (3, .int v3), (4, .int v4), (5, .int v5), (6, .int v6), (7, .int v7), (8, .int v8)] → x_R O K h H → va_S (oA O) s.heap H locs → k49 h v1 v2 v3 v4 v5 v6 v7 v8 = some (r, h') → W p l e (x_rmX 7 155 4 24) s m args below meth c H locs 3 18 (vx_MQ below (x_XQ O K h' (x_rv x_gi r)) (x_XX O K h' (x_rv x_gi r)) args s 4 24 (oA O)) (F0 m 49 ls []))  (hst : l.stackTraces = false) (ls : Array Slot) (H : Heap) (locs : List Loc) (h : XH) (v1 : Int32) (v2 : Int32) (v3 : Int32) (v4 : Int32) (v5 : Int32) (v6 : Int32) (v7 : Int32) (v8 : Int32) (s0 : Int32) (hl : lv_has ls 12 [(0, .ref (oX O)), (1, .int v1), (2, .int v2), (3, .int v3), (4, .int v4), (5, .int v5), (6, .int v6), (7, .int v7), (8, .int v8)]) (hR : x_R O K h H) (hS : va_S (oA O) s.heap H locs) (hf : f_X11_per_125 k49 K (oX O) h v1 v2 v3 v4 v5 v6 v7 v8 s0 = some (r, h')) : W p l e (x_rmX 7 155 4 24) s m args below meth c H locs 3 18 (vx_MQ below (x_XQ O K h' (x_rv x_gi r)) (x_XX O K h' (x_rv x_gi r)) args s 4 24 (oA O)) (F0 m 125 ls [.int s0]) := by
  have hx := C.1
  have hb := C.2.1
  rw [f_X11_per_125] at hf
  refine lv_istore (lv' := [(11, _), (0, _), (1, _), (2, _), (3, _), (4, _), (5, _), (6, _), (7, _), (8, _)]) hx hb dX11_per_125 hl (Nat.le_of_ble_eq_true rfl) rfl (fun ls hl => ?_)
  refine lv_iload hx hb dX11_per_127 (lv_at hl 0 rfl) ?_
  refine lv_iload hx hb dX11_per_129 (lv_at hl 8 rfl) ?_
  have kM10 : ∀ (ls : Array Slot) (H : Heap) (locs : List Loc), lv_has ls 12 [(0, .ref (oX O)), (1, .int v1), (2, .int v2), (3, .int v3), (4, .int v4), (5, .int v5), (6, .int (if s0 ≤ v7 then v6 else v8)), (7, .int (if s0 ≤ v7 then v7 else s0)), (8, .int v8)] → x_R O K h H → va_S (oA O) s.heap H locs → W p l e (x_rmX 7 155 4 24) s m args below meth c H locs 3 18 (vx_MQ below (x_XQ O K h' (x_rv x_gi r)) (x_XX O K h' (x_rv x_gi r)) args s 4 24 (oA O)) (F0 m 142 ls []) := by
    intro ls H locs hl hR hS
    refine lv_iinc (k := 8) (v := _ + 1) (lv' := [(8, _), (0, _), (1, _), (2, _), (3, _), (4, _), (5, _), (6, _), (7, _)]) hx hb dX11_per_142 hl rfl (x_inc 1 1 rfl _) (Nat.le_of_ble_eq_true rfl) rfl (fun ls hl => ?_)
    refine lv_goto (tgt := 49) hx hb dX11_per_145 rfl ?_
    exact hk49 ls _ _ h _ _ _ _ _ _ _ _  (lv_sub hl [1, 2, 3, 4, 5, 6, 7, 8, 0] rfl) hR hS hf
  refine lv_icmp_le (tgt := 142) hx hb dX11_per_131 rfl (fun hc => ?_) (fun hc => ?_)
  · try simp only [if_pos hc] at kM10
    exact kM10 ls _ _ (lv_sub hl [1, 2, 3, 4, 5, 6, 7, 8, 9] rfl) hR hS
  · try simp only [if_neg hc] at kM10
    refine lv_iload hx hb dX11_per_134 (lv_at hl 0 rfl) ?_
    refine lv_istore (lv' := [(7, _), (11, _), (0, _), (1, _), (2, _), (3, _), (4, _), (5, _), (6, _), (8, _)]) hx hb dX11_per_136 hl (Nat.le_of_ble_eq_true rfl) rfl (fun ls hl => ?_)
    refine lv_iload hx hb dX11_per_138 (lv_at hl 9 rfl) ?_
    refine lv_istore (lv' := [(6, _), (7, _), (11, _), (0, _), (1, _), (2, _), (3, _), (4, _), (5, _), (8, _)]) hx hb dX11_per_140 hl (Nat.le_of_ble_eq_true rfl) rfl (fun ls hl => ?_)
    exact kM10 ls _ _ (lv_sub hl [3, 4, 5, 6, 7, 8, 0, 1, 9] rfl) hR hS
set_option maxRecDepth 20000 in
theorem B_X11_per_91 {p : Program} {l : Launch} {e : Env} {s : State} {m : MethodId} {args : Array Value} {below : List Frame} {meth : Method} {c : Code} {O : XO} {K : XK} {r : Nat ⊕ Int32} {h' : XH}  {k49 : XH → Int32 → Int32 → Int32 → Int32 → Int32 → Int32 → Int32 → Int32 → Option ((Nat ⊕ Int32) × XH)} (C : x_C p s m args meth c O cX11_per 12 RX11 (some .int)) (hk49 : ∀ (ls : Array Slot) (H : Heap) (locs : List Loc) (h : XH) (v1 : Int32) (v2 : Int32) (v3 : Int32) (v4 : Int32) (v5 : Int32) (v6 : Int32) (v7 : Int32) (v8 : Int32), lv_has ls 12 [(0, .ref (oX O)), (1, .int v1), (2, .int v2), (3, .int v3), (4, .int v4), (5, .int v5), (6, .int v6), (7, .int v7), (8, .int v8)] → x_R O K h H → va_S (oA O) s.heap H locs → k49 h v1 v2 v3 v4 v5 v6 v7 v8 = some (r, h') → W p l e (x_rmX 7 155 4 24) s m args below meth c H locs 3 18 (vx_MQ below (x_XQ O K h' (x_rv x_gi r)) (x_XX O K h' (x_rv x_gi r)) args s 4 24 (oA O)) (F0 m 49 ls []))  (hst : l.stackTraces = false) (ls : Array Slot) (H : Heap) (locs : List Loc) (h : XH) (v1 : Int32) (v2 : Int32) (v3 : Int32) (v4 : Int32) (v5 : Int32) (v6 : Int32) (v7 : Int32) (v8 : Int32) (s0 : Int32) (hl : lv_has ls 12 [(0, .ref (oX O)), (1, .int v1), (2, .int v2), (3, .int v3), (4, .int v4), (5, .int v5), (6, .int v6), (7, .int v7), (8, .int v8)]) (hR : x_R O K h H) (hS : va_S (oA O) s.heap H locs) (hf : f_X11_per_91 k49 K (oX O) h v1 v2 v3 v4 v5 v6 v7 v8 s0 = some (r, h')) : W p l e (x_rmX 7 155 4 24) s m args below meth c H locs 3 18 (vx_MQ below (x_XQ O K h' (x_rv x_gi r)) (x_XX O K h' (x_rv x_gi r)) args s 4 24 (oA O)) (F0 m 91 ls [.int s0]) := by
  have hx := C.1
  have hb := C.2.1
  rw [f_X11_per_91] at hf
  refine lv_istore (lv' := [(10, _), (0, _), (1, _), (2, _), (3, _), (4, _), (5, _), (6, _), (7, _), (8, _)]) hx hb dX11_per_91 hl (Nat.le_of_ble_eq_true rfl) rfl (fun ls hl => ?_)
  refine lv_iload hx hb dX11_per_93 (lv_at hl 0 rfl) ?_
  refine lv_iconst (v := 1) hx hb dX11_per_95 rfl ?_
  refine lv_icmp_ge (tgt := 103) hx hb dX11_per_96 rfl (fun hc => ?_) (fun hc => ?_)
  · have hf := x_ip hc hf
    refine lv_aload_n hx hb dX11_per_103 rfl (lv_at hl 1 rfl) ?_
    refine gf_11_3 C hR (x_k hR 0 rfl) tw_498 dX11_per_104 ?_
    refine lv_aload_n hx hb dX11_per_107 rfl (lv_at hl 1 rfl) ?_
    refine gf_11_1 C hR (x_k hR 0 rfl) tw_496 dX11_per_108 ?_
    refine gf_7_9 C hR (x_k hR 9 rfl) tw_316 dX11_per_111 ?_
    refine lv_iload_n hx hb dX11_per_114 rfl (lv_at hl 2 rfl) ?_
    obtain ⟨g8, hf⟩ := x_gd hf
    refine x_taald C hR (x_k1 (x_k hR 14 rfl)) (x_k2 (x_k hR 14 rfl) g8) dX11_per_115 ?_
    refine lv_iload_n hx hb dX11_per_116 rfl (lv_at hl 3 rfl) ?_
    refine lv_iload_n hx hb dX11_per_117 rfl (lv_at hl 4 rfl) ?_
    refine lv_iload hx hb dX11_per_118 (lv_at hl 9 rfl) ?_
    refine lv_iload hx hb dX11_per_120 (lv_at hl 0 rfl) ?_
    obtain ⟨q9, eq9, hf⟩ := x_bd hf
    refine x_cVi5 C hR hS (S_X5_sumIfPut (x_kT hR (x_k hR 14 rfl)) eq9) (x_k hR 46 rfl) (by decide) rfl mf_X5_sumIfPut tw_1402 (Nat.le_of_ble_eq_true rfl) (Nat.le_of_ble_eq_true rfl) hl.1 (Nat.le_of_ble_eq_true rfl) dX11_per_122 ⟨Nat.le_of_ble_eq_true rfl, Nat.le_of_ble_eq_true rfl⟩ (fun H locs hR hS => ?_)
    exact B_X11_per_125  C hk49 hst  ls _ _ q9.2 _ _ _ _ _ _ _ _ _  (lv_sub hl [1, 2, 3, 4, 5, 6, 7, 8, 9] rfl) hR hS hf
  · have hf := x_in hc hf
    refine lv_iconst (v := (-1)) hx hb dX11_per_99 rfl ?_
    refine lv_goto (tgt := 125) hx hb dX11_per_100 rfl ?_
    exact B_X11_per_125  C hk49 hst  ls _ _ h _ _ _ _ _ _ _ _ _  (lv_sub hl [1, 2, 3, 4, 5, 6, 7, 8, 9] rfl) hR hS hf
set_option maxRecDepth 20000 in
theorem B_X11_per_49 {p : Program} {l : Launch} {e : Env} {s : State} {m : MethodId} {args : Array Value} {below : List Frame} {meth : Method} {c : Code} {O : XO} {K : XK} {r : Nat ⊕ Int32} {h' : XH}   (C : x_C p s m args meth c O cX11_per 12 RX11 (some .int))   (hst : l.stackTraces = false) : ∀ (n : Nat) (ls : Array Slot) (H : Heap) (locs : List Loc) (h : XH) (v1 : Int32) (v2 : Int32) (v3 : Int32) (v4 : Int32) (v5 : Int32) (v6 : Int32) (v7 : Int32) (v8 : Int32) (hl : lv_has ls 12 [(0, .ref (oX O)), (1, .int v1), (2, .int v2), (3, .int v3), (4, .int v4), (5, .int v5), (6, .int v6), (7, .int v7), (8, .int v8)]) (hR : x_R O K h H) (hS : va_S (oA O) s.heap H locs) (hf : f_X11_per_49 K (oX O) n h v1 v2 v3 v4 v5 v6 v7 v8 = some (r, h')), W p l e (x_rmX 7 155 4 24) s m args below meth c H locs 3 18 (vx_MQ below (x_XQ O K h' (x_rv x_gi r)) (x_XX O K h' (x_rv x_gi r)) args s 4 24 (oA O)) (F0 m 49 ls []) := by
  have hx := C.1
  have hb := C.2.1
  intro n
  induction n with
  | zero =>
    intro ls H locs h v1 v2 v3 v4 v5 v6 v7 v8 hl hR hS hf
    rw [f_X11_per_49] at hf
    cases hf
  | succ n ih =>
    intro ls H locs h v1 v2 v3 v4 v5 v6 v7 v8 hl hR hS hf
    rw [f_X11_per_49] at hf
    refine lv_iload hx hb dX11_per_49 (lv_at hl 8 rfl) ?_
    refine lv_iconst (v := 3) hx hb dX11_per_51 rfl ?_
    refine lv_icmp_gt (tgt := 148) hx hb dX11_per_52 rfl (fun hc => ?_) (fun hc => ?_)
    · have hf := x_ip hc hf
      refine lv_iload hx hb dX11_per_148 (lv_at hl 5 rfl) ?_
      have kM4 : ∀ (ls : Array Slot) (H : Heap) (locs : List Loc), lv_has ls 12 [] → x_R O K h H → va_S (oA O) s.heap H locs → W p l e (x_rmX 7 155 4 24) s m args below meth c H locs 3 18 (vx_MQ below (x_XQ O K h' (x_rv x_gi r)) (x_XX O K h' (x_rv x_gi r)) args s 4 24 (oA O)) (F0 m 160 ls [.int (if v5 = 0 then v6 else v7)]) := by
        intro ls H locs hl hR hS
        cases hf
        exact xx_iret C hR hS (Nat.le_of_ble_eq_true rfl) (Nat.le_of_ble_eq_true rfl) dX11_per_160
      refine lv_if_eq (tgt := 158) hx hb dX11_per_150 rfl (fun hc => ?_) (fun hc => ?_)
      · try simp only [if_pos hc] at kM4
        refine lv_iload hx hb dX11_per_158 (lv_at hl 6 rfl) ?_
        exact kM4 ls _ _ (lv_sub hl [] rfl) hR hS
      · try simp only [if_neg hc] at kM4
        refine lv_iload hx hb dX11_per_153 (lv_at hl 7 rfl) ?_
        refine lv_goto (tgt := 160) hx hb dX11_per_155 rfl ?_
        exact kM4 ls _ _ (lv_sub hl [] rfl) hR hS
    · have hf := x_in hc hf
      refine lv_aload_n hx hb dX11_per_55 rfl (lv_at hl 0 rfl) ?_
      refine gf_11_1 C hR (x_k hR 0 rfl) tw_496 dX11_per_56 ?_
      refine gf_7_5 C hR (x_k hR 9 rfl) tw_305 dX11_per_59 ?_
      refine lv_iload_n hx hb dX11_per_62 rfl (lv_at hl 2 rfl) ?_
      obtain ⟨g5, hf⟩ := x_gd hf
      refine x_paald C hR (x_k1 (x_k hR 13 rfl)) (x_k2 (x_k hR 13 rfl) g5) dX11_per_63 ?_
      refine lv_iload hx hb dX11_per_64 (lv_at hl 8 rfl) ?_
      obtain ⟨v_6, ev_6, hf⟩ := x_bd hf
      refine x_cVi1 C hR hS (S_X2_placesBy (x_kP hR (x_k hR 13 rfl) g5) ev_6) (x_kP hR (x_k hR 13 rfl) g5) (by decide) rfl mf_X2_placesBy tw_1000 (Nat.le_of_ble_eq_true rfl) (Nat.le_of_ble_eq_true rfl) hl.1 (Nat.le_of_ble_eq_true rfl) dX11_per_66 ⟨Nat.le_of_ble_eq_true rfl, Nat.le_of_ble_eq_true rfl⟩ (fun H locs hR hS => ?_)
      refine lv_istore (lv' := [(9, _), (0, _), (1, _), (2, _), (3, _), (4, _), (5, _), (6, _), (7, _), (8, _)]) hx hb dX11_per_69 hl (Nat.le_of_ble_eq_true rfl) rfl (fun ls hl => ?_)
      refine lv_iload hx hb dX11_per_71 (lv_at hl 0 rfl) ?_
      refine lv_iconst (v := 1) hx hb dX11_per_73 rfl ?_
      refine lv_icmp_ge (tgt := 81) hx hb dX11_per_74 rfl (fun hc => ?_) (fun hc => ?_)
      · have hf := x_ip hc hf
        refine lv_iload hx hb dX11_per_81 (lv_at hl 5 rfl) ?_
        refine lv_iload hx hb dX11_per_83 (lv_at hl 0 rfl) ?_
        obtain ⟨g7, hf⟩ := x_gn hf
        refine lv_idiv hx hb dX11_per_85 g7 ?_
        refine lv_bipush (v := 60) hx hb dX11_per_86 rfl ?_
        refine x_cSi2 C hR hS (S_J9_min_7cf53  rfl) mf_J9_min_7cf53 tw_1401 (Nat.le_of_ble_eq_true rfl) (Nat.le_of_ble_eq_true rfl) hl.1 (Nat.le_of_ble_eq_true rfl) dX11_per_88 ⟨Nat.le_of_ble_eq_true rfl, Nat.le_of_ble_eq_true rfl⟩ (fun H locs hR hS => ?_)
        exact B_X11_per_91  C ih hst  ls _ _ h _ _ _ _ _ _ _ _ _  (lv_sub hl [1, 2, 3, 4, 5, 6, 7, 8, 9] rfl) hR hS hf
      · have hf := x_in hc hf
        refine lv_iconst (v := 0) hx hb dX11_per_77 rfl ?_
        refine lv_goto (tgt := 91) hx hb dX11_per_78 rfl ?_
        exact B_X11_per_91  C ih hst  ls _ _ h _ _ _ _ _ _ _ _ _  (lv_sub hl [1, 2, 3, 4, 5, 6, 7, 8, 9] rfl) hR hS hf
set_option maxRecDepth 20000 in
theorem S_X11_per {l : Launch} {O : XO} {K : XK} {h : XH} {v1 : Int32} {v2 : Int32} {v3 : Int32} {v4 : Int32} {v5 : Int32}  {r : Nat ⊕ Int32} {h' : XH} (hst : l.stackTraces = false) (hf : f_X11_per K (oX O) h v1 v2 v3 v4 v5 = some (r, h')) : x_MX l O K yX11_per cX11_per 12 (some .int) 7 155 4 24 h [.ref (oX O), .int v1, .int v2, .int v3, .int v4, .int v5] (x_rv x_gi r) h' := by
  refine x_enterX (by decide) (Nat.le_of_ble_eq_true rfl) (fun p e s m args below meth c C hR ls hl => ?_)
  have hS : va_S (oA O) s.heap s.heap [] := va_S.rf
  have hx := C.1
  have hb := C.2.1
  have hl : lv_has ls 12 [(0, .ref (oX O)), (1, .int v1), (2, .int v2), (3, .int v3), (4, .int v4), (5, .int v5)] := hl
  rw [f_X11_per] at hf
  refine lv_aload_n hx hb dX11_per_0 rfl (lv_at hl 0 rfl) ?_
  refine lv_iload_n hx hb dX11_per_1 rfl (lv_at hl 1 rfl) ?_
  obtain ⟨s1_, h1, eh1, ht1, hf⟩ := x_xbd hf
  refine x_xVv1 C hR hS (S_X11_checkLaw hst eh1) (x_k hR 0 rfl) (by decide) rfl mf_X11_checkLaw tw_1102 (Nat.le_of_ble_eq_true rfl) (Nat.le_of_ble_eq_true rfl) hl.1 (Nat.le_of_ble_eq_true rfl) dX11_per_2 ⟨Nat.le_of_ble_eq_true rfl, Nat.le_of_ble_eq_true rfl⟩ (x_thx ht1) (Nat.le_of_ble_eq_true rfl) (Nat.le_of_ble_eq_true rfl) (fun hs1 H locs hR hS => ?_)
  have hf := hf () hs1
  refine lv_aload_n hx hb dX11_per_5 rfl (lv_at hl 0 rfl) ?_
  refine lv_iload_n hx hb dX11_per_6 rfl (lv_at hl 2 rfl) ?_
  obtain ⟨s2_, h2, eh2, ht2, hf⟩ := x_xbd hf
  refine x_xVv1 C hR hS (S_X11_checkPack hst eh2) (x_k hR 0 rfl) (by decide) rfl mf_X11_checkPack tw_959 (Nat.le_of_ble_eq_true rfl) (Nat.le_of_ble_eq_true rfl) hl.1 (Nat.le_of_ble_eq_true rfl) dX11_per_7 ⟨Nat.le_of_ble_eq_true rfl, Nat.le_of_ble_eq_true rfl⟩ (x_thx ht2) (Nat.le_of_ble_eq_true rfl) (Nat.le_of_ble_eq_true rfl) (fun hs2 H locs hR hS => ?_)
  have hf := hf () hs2
  refine lv_aload_n hx hb dX11_per_10 rfl (lv_at hl 0 rfl) ?_
  refine lv_iload_n hx hb dX11_per_11 rfl (lv_at hl 3 rfl) ?_
  obtain ⟨s3_, h3, eh3, ht3, hf⟩ := x_xbd hf
  refine x_xVv1 C hR hS (S_X11_checkHouse hst eh3) (x_k hR 0 rfl) (by decide) rfl mf_X11_checkHouse tw_924 (Nat.le_of_ble_eq_true rfl) (Nat.le_of_ble_eq_true rfl) hl.1 (Nat.le_of_ble_eq_true rfl) dX11_per_12 ⟨Nat.le_of_ble_eq_true rfl, Nat.le_of_ble_eq_true rfl⟩ (x_thx ht3) (Nat.le_of_ble_eq_true rfl) (Nat.le_of_ble_eq_true rfl) (fun hs3 H locs hR hS => ?_)
  have hf := hf () hs3
  refine lv_iload hx hb dX11_per_15 (lv_at hl 4 rfl) ?_
  refine lv_iconst (v := 1) hx hb dX11_per_17 rfl ?_
  refine lv_icmp_lt (tgt := 29) hx hb dX11_per_18 rfl (fun hc => ?_) (fun hc => ?_)
  · have hf := x_ip hc hf
    exact B_X11_per_29  C  hst  ls _ _ h3  (lv_sub hl [] rfl) hR hS hf
  · have hf := x_in hc hf
    refine lv_iload hx hb dX11_per_21 (lv_at hl 4 rfl) ?_
    refine lv_sipush (v := 9999) hx hb dX11_per_23 rfl ?_
    refine lv_icmp_le (tgt := 40) hx hb dX11_per_26 rfl (fun hc => ?_) (fun hc => ?_)
    · have hf := x_ip hc hf
      refine lv_iconst (v := (-1)) hx hb dX11_per_40 rfl ?_
      refine lv_istore (lv' := [(6, _), (0, _), (1, _), (2, _), (3, _), (4, _), (5, _)]) hx hb dX11_per_41 hl (Nat.le_of_ble_eq_true rfl) rfl (fun ls hl => ?_)
      refine lv_iconst (v := (-1)) hx hb dX11_per_43 rfl ?_
      refine lv_istore (lv' := [(7, _), (6, _), (0, _), (1, _), (2, _), (3, _), (4, _), (5, _)]) hx hb dX11_per_44 hl (Nat.le_of_ble_eq_true rfl) rfl (fun ls hl => ?_)
      refine lv_iconst (v := 1) hx hb dX11_per_46 rfl ?_
      refine lv_istore (lv' := [(8, _), (7, _), (6, _), (0, _), (1, _), (2, _), (3, _), (4, _), (5, _)]) hx hb dX11_per_47 hl (Nat.le_of_ble_eq_true rfl) rfl (fun ls hl => ?_)
      exact B_X11_per_49  C  hst x_FU ls _ _ h3 _ _ _ _ _ _ _ _  (lv_sub hl [3, 4, 5, 6, 7, 8, 2, 1, 0] rfl) hR hS hf
    · have hf := x_in hc hf
      exact B_X11_per_29  C  hst  ls _ _ h3  (lv_sub hl [] rfl) hR hS hf
def f_X11_plan_127 (k43 : XH → Int32 → Int32 → Int32 → Int32 → Int32 → Int32 → Option ((Nat ⊕ Int32) × XH)) (K : XK) (x : Nat) (h : XH) (v1 : Int32) (v2 : Int32) (v3 : Int32) (v4 : Int32) (v5 : Int32) (v6 : Int32) : Option ((Nat ⊕ Int32) × XH) := k43 h v1 v2 v3 v4 v5 (v6 + 1)
def f_X11_plan_77 (k43 : XH → Int32 → Int32 → Int32 → Int32 → Int32 → Int32 → Option ((Nat ⊕ Int32) × XH)) (K : XK) (x : Nat) : Nat → XH → Int32 → Int32 → Int32 → Int32 → Int32 → Int32 → Int32 → Option ((Nat ⊕ Int32) × XH)
  | 0, _, _, _, _, _, _, _, _ => none
  | n + 1, h, v1, v2, v3, v4, v5, v6, v7 => if (h.1 (x + 9) 1) ≤ v7 then f_X11_plan_127 k43 K x h v1 v2 v3 v4 v5 v6 else if x_b v1 3 = true then Option.bind (f_X5_sumIfPut K x h (h.2.2 (x + 14) v1.toNatClampNeg) v6 v7 v3 v4) (fun q10 => Option.bind (f_X3_setWorth x q10.2 v7 q10.1) (fun h11 => f_X11_plan_77 k43 K x n h11 v1 v2 v3 v4 v5 v6 (v7 + 1))) else none
def f_X11_plan_43 (K : XK) (x : Nat) : Nat → XH → Int32 → Int32 → Int32 → Int32 → Int32 → Int32 → Option ((Nat ⊕ Int32) × XH)
  | 0, _, _, _, _, _, _, _ => none
  | n + 1, h, v1, v2, v3, v4, v5, v6 => if (h.1 (x + 9) 4) ≤ v6 then Option.bind (f_X3_search x h) (fun h6 => if v5 = (-1) then some (.inr (h6.1 (x + 54) 5), h6) else Option.bind (f_X3_houseFor x h6 v5) (fun v_7 => some (.inr v_7, h6))) else if ((x_shr v2 v6) &&& 1) = 1 then Option.bind (f_X3_addPack x h v6) (fun h8 => f_X11_plan_77 (f_X11_plan_43 K x n) K x x_FU h8 v1 v2 v3 v4 v5 v6 0) else f_X11_plan_127 (f_X11_plan_43 K x n) K x h v1 v2 v3 v4 v5 v6
def f_X11_plan_17 (K : XK) (x : Nat) (h : XH) (v1 : Int32) (v2 : Int32) (v3 : Int32) (v4 : Int32) (v5 : Int32) : Option ((Nat ⊕ Int32) × XH) := x_xb (f_X11_checkPlanned x h v2) (fun _ h2 => x_xb (f_X11_checkPer x h2 v3) (fun _ h3 => x_xb (f_X11_checkSeconds x h3 v4) (fun _ h4 => Option.bind (f_X3_begin K x h4) (fun h5 => f_X11_plan_43 K x x_FU h5 v1 v2 v3 v4 v5 0))))
def f_X11_plan (K : XK) (x : Nat) (h : XH) (v1 : Int32) (v2 : Int32) (v3 : Int32) (v4 : Int32) (v5 : Int32) : Option ((Nat ⊕ Int32) × XH) := x_xb (f_X11_checkLaw x h v1) (fun _ h1 => if v5 = (-1) then f_X11_plan_17 K x h1 v1 v2 v3 v4 v5 else x_xb (f_X11_checkPack x h1 v5) (fun _ h12 => f_X11_plan_17 K x h12 v1 v2 v3 v4 v5))
set_option maxRecDepth 20000 in
theorem B_X11_plan_127 {p : Program} {l : Launch} {e : Env} {s : State} {m : MethodId} {args : Array Value} {below : List Frame} {meth : Method} {c : Code} {O : XO} {K : XK} {r : Nat ⊕ Int32} {h' : XH}  {k43 : XH → Int32 → Int32 → Int32 → Int32 → Int32 → Int32 → Option ((Nat ⊕ Int32) × XH)} (C : x_C p s m args meth c O cX11_plan 8 RX11 (some .int)) (hk43 : ∀ (ls : Array Slot) (H : Heap) (locs : List Loc) (h : XH) (v1 : Int32) (v2 : Int32) (v3 : Int32) (v4 : Int32) (v5 : Int32) (v6 : Int32), lv_has ls 8 [(0, .ref (oX O)), (1, .int v1), (2, .int v2), (3, .int v3), (4, .int v4), (5, .int v5), (6, .int v6)] → x_R O K h H → va_S (oA O) s.heap H locs → k43 h v1 v2 v3 v4 v5 v6 = some (r, h') → W p l e (x_rmX 9 745 5 30) s m args below meth c H locs 5 30 (vx_MQ below (x_XQ O K h' (x_rv x_gi r)) (x_XX O K h' (x_rv x_gi r)) args s 5 30 (oA O)) (F0 m 43 ls []))  (hst : l.stackTraces = false) (ls : Array Slot) (H : Heap) (locs : List Loc) (h : XH) (v1 : Int32) (v2 : Int32) (v3 : Int32) (v4 : Int32) (v5 : Int32) (v6 : Int32) (hl : lv_has ls 8 [(0, .ref (oX O)), (1, .int v1), (2, .int v2), (3, .int v3), (4, .int v4), (5, .int v5), (6, .int v6)]) (hR : x_R O K h H) (hS : va_S (oA O) s.heap H locs) (hf : f_X11_plan_127 k43 K (oX O) h v1 v2 v3 v4 v5 v6 = some (r, h')) : W p l e (x_rmX 9 745 5 30) s m args below meth c H locs 5 30 (vx_MQ below (x_XQ O K h' (x_rv x_gi r)) (x_XX O K h' (x_rv x_gi r)) args s 5 30 (oA O)) (F0 m 127 ls []) := by
  have hx := C.1
  have hb := C.2.1
  rw [f_X11_plan_127] at hf
  refine lv_iinc (k := 6) (v := _ + 1) (lv' := [(6, _), (0, _), (1, _), (2, _), (3, _), (4, _), (5, _)]) hx hb dX11_plan_127 hl rfl (x_inc 1 1 rfl _) (Nat.le_of_ble_eq_true rfl) rfl (fun ls hl => ?_)
  refine lv_goto (tgt := 43) hx hb dX11_plan_130 rfl ?_
  exact hk43 ls _ _ h _ _ _ _ _ _  (lv_sub hl [1, 2, 3, 4, 5, 6, 0] rfl) hR hS hf
set_option maxRecDepth 20000 in
theorem B_X11_plan_77 {p : Program} {l : Launch} {e : Env} {s : State} {m : MethodId} {args : Array Value} {below : List Frame} {meth : Method} {c : Code} {O : XO} {K : XK} {r : Nat ⊕ Int32} {h' : XH}  {k43 : XH → Int32 → Int32 → Int32 → Int32 → Int32 → Int32 → Option ((Nat ⊕ Int32) × XH)} (C : x_C p s m args meth c O cX11_plan 8 RX11 (some .int)) (hk43 : ∀ (ls : Array Slot) (H : Heap) (locs : List Loc) (h : XH) (v1 : Int32) (v2 : Int32) (v3 : Int32) (v4 : Int32) (v5 : Int32) (v6 : Int32), lv_has ls 8 [(0, .ref (oX O)), (1, .int v1), (2, .int v2), (3, .int v3), (4, .int v4), (5, .int v5), (6, .int v6)] → x_R O K h H → va_S (oA O) s.heap H locs → k43 h v1 v2 v3 v4 v5 v6 = some (r, h') → W p l e (x_rmX 9 745 5 30) s m args below meth c H locs 5 30 (vx_MQ below (x_XQ O K h' (x_rv x_gi r)) (x_XX O K h' (x_rv x_gi r)) args s 5 30 (oA O)) (F0 m 43 ls []))  (hst : l.stackTraces = false) : ∀ (n : Nat) (ls : Array Slot) (H : Heap) (locs : List Loc) (h : XH) (v1 : Int32) (v2 : Int32) (v3 : Int32) (v4 : Int32) (v5 : Int32) (v6 : Int32) (v7 : Int32) (hl : lv_has ls 8 [(0, .ref (oX O)), (1, .int v1), (2, .int v2), (3, .int v3), (4, .int v4), (5, .int v5), (6, .int v6), (7, .int v7)]) (hR : x_R O K h H) (hS : va_S (oA O) s.heap H locs) (hf : f_X11_plan_77 k43 K (oX O) n h v1 v2 v3 v4 v5 v6 v7 = some (r, h')), W p l e (x_rmX 9 745 5 30) s m args below meth c H locs 5 30 (vx_MQ below (x_XQ O K h' (x_rv x_gi r)) (x_XX O K h' (x_rv x_gi r)) args s 5 30 (oA O)) (F0 m 77 ls []) := by
  have hx := C.1
  have hb := C.2.1
  intro n
  induction n with
  | zero =>
    intro ls H locs h v1 v2 v3 v4 v5 v6 v7 hl hR hS hf
    rw [f_X11_plan_77] at hf
    cases hf
  | succ n ih =>
    intro ls H locs h v1 v2 v3 v4 v5 v6 v7 hl hR hS hf
    rw [f_X11_plan_77] at hf
    refine lv_iload hx hb dX11_plan_77 (lv_at hl 7 rfl) ?_
    refine lv_aload_n hx hb dX11_plan_79 rfl (lv_at hl 0 rfl) ?_
    refine gf_11_1 C hR (x_k hR 0 rfl) tw_496 dX11_plan_80 ?_
    refine gf_7_1 C hR (x_k hR 9 rfl) tw_290 dX11_plan_83 ?_
    refine lv_icmp_ge (tgt := 127) hx hb dX11_plan_86 rfl (fun hc => ?_) (fun hc => ?_)
    · have hf := x_ip hc hf
      exact B_X11_plan_127  C hk43 hst  ls _ _ h _ _ _ _ _ _  (lv_sub hl [0, 1, 2, 3, 4, 5, 6] rfl) hR hS hf
    · have hf := x_in hc hf
      refine lv_aload_n hx hb dX11_plan_89 rfl (lv_at hl 0 rfl) ?_
      refine gf_11_6 C hR (x_k hR 0 rfl) tw_501 dX11_plan_90 ?_
      refine lv_iload hx hb dX11_plan_93 (lv_at hl 7 rfl) ?_
      refine lv_aload_n hx hb dX11_plan_95 rfl (lv_at hl 0 rfl) ?_
      refine gf_11_3 C hR (x_k hR 0 rfl) tw_498 dX11_plan_96 ?_
      refine lv_aload_n hx hb dX11_plan_99 rfl (lv_at hl 0 rfl) ?_
      refine gf_11_1 C hR (x_k hR 0 rfl) tw_496 dX11_plan_100 ?_
      refine gf_7_9 C hR (x_k hR 9 rfl) tw_316 dX11_plan_103 ?_
      refine lv_iload_n hx hb dX11_plan_106 rfl (lv_at hl 1 rfl) ?_
      obtain ⟨g9, hf⟩ := x_gd hf
      refine x_taald C hR (x_k1 (x_k hR 14 rfl)) (x_k2 (x_k hR 14 rfl) g9) dX11_plan_107 ?_
      refine lv_iload hx hb dX11_plan_108 (lv_at hl 6 rfl) ?_
      refine lv_iload hx hb dX11_plan_110 (lv_at hl 7 rfl) ?_
      refine lv_iload_n hx hb dX11_plan_112 rfl (lv_at hl 3 rfl) ?_
      refine lv_iload hx hb dX11_plan_113 (lv_at hl 4 rfl) ?_
      obtain ⟨q10, eq10, hf⟩ := x_bd hf
      refine x_cVi5 C hR hS (S_X5_sumIfPut (x_kT hR (x_k hR 14 rfl)) eq10) (x_k hR 46 rfl) (by decide) rfl mf_X5_sumIfPut tw_1402 (Nat.le_of_ble_eq_true rfl) (Nat.le_of_ble_eq_true rfl) hl.1 (Nat.le_of_ble_eq_true rfl) dX11_plan_115 ⟨Nat.le_of_ble_eq_true rfl, Nat.le_of_ble_eq_true rfl⟩ (fun H locs hR hS => ?_)
      obtain ⟨h11, eh11, hf⟩ := x_bd hf
      refine x_cVv2 C hR hS (S_X3_setWorth  eh11) (x_k hR 54 rfl) (by decide) rfl mf_X3_setWorth tw_1429 (Nat.le_of_ble_eq_true rfl) (Nat.le_of_ble_eq_true rfl) hl.1 (Nat.le_of_ble_eq_true rfl) dX11_plan_118 ⟨Nat.le_of_ble_eq_true rfl, Nat.le_of_ble_eq_true rfl⟩ (fun H locs hR hS => ?_)
      refine lv_iinc (k := 7) (v := _ + 1) (lv' := [(7, _), (0, _), (1, _), (2, _), (3, _), (4, _), (5, _), (6, _)]) hx hb dX11_plan_121 hl rfl (x_inc 1 1 rfl _) (Nat.le_of_ble_eq_true rfl) rfl (fun ls hl => ?_)
      refine lv_goto (tgt := 77) hx hb dX11_plan_124 rfl ?_
      exact ih ls _ _ h11 _ _ _ _ _ _ _  (lv_sub hl [1, 2, 3, 4, 5, 6, 7, 0] rfl) hR hS hf
set_option maxRecDepth 20000 in
theorem B_X11_plan_43 {p : Program} {l : Launch} {e : Env} {s : State} {m : MethodId} {args : Array Value} {below : List Frame} {meth : Method} {c : Code} {O : XO} {K : XK} {r : Nat ⊕ Int32} {h' : XH}   (C : x_C p s m args meth c O cX11_plan 8 RX11 (some .int))   (hst : l.stackTraces = false) : ∀ (n : Nat) (ls : Array Slot) (H : Heap) (locs : List Loc) (h : XH) (v1 : Int32) (v2 : Int32) (v3 : Int32) (v4 : Int32) (v5 : Int32) (v6 : Int32) (hl : lv_has ls 8 [(0, .ref (oX O)), (1, .int v1), (2, .int v2), (3, .int v3), (4, .int v4), (5, .int v5), (6, .int v6)]) (hR : x_R O K h H) (hS : va_S (oA O) s.heap H locs) (hf : f_X11_plan_43 K (oX O) n h v1 v2 v3 v4 v5 v6 = some (r, h')), W p l e (x_rmX 9 745 5 30) s m args below meth c H locs 5 30 (vx_MQ below (x_XQ O K h' (x_rv x_gi r)) (x_XX O K h' (x_rv x_gi r)) args s 5 30 (oA O)) (F0 m 43 ls []) := by
  have hx := C.1
  have hb := C.2.1
  intro n
  induction n with
  | zero =>
    intro ls H locs h v1 v2 v3 v4 v5 v6 hl hR hS hf
    rw [f_X11_plan_43] at hf
    cases hf
  | succ n ih =>
    intro ls H locs h v1 v2 v3 v4 v5 v6 hl hR hS hf
    rw [f_X11_plan_43] at hf
    refine lv_iload hx hb dX11_plan_43 (lv_at hl 6 rfl) ?_
    refine lv_aload_n hx hb dX11_plan_45 rfl (lv_at hl 0 rfl) ?_
    refine gf_11_1 C hR (x_k hR 0 rfl) tw_496 dX11_plan_46 ?_
    refine gf_7_4 C hR (x_k hR 9 rfl) tw_299 dX11_plan_49 ?_
    refine lv_icmp_ge (tgt := 133) hx hb dX11_plan_52 rfl (fun hc => ?_) (fun hc => ?_)
    · have hf := x_ip hc hf
      refine lv_aload_n hx hb dX11_plan_133 rfl (lv_at hl 0 rfl) ?_
      refine gf_11_6 C hR (x_k hR 0 rfl) tw_501 dX11_plan_134 ?_
      obtain ⟨h6, eh6, hf⟩ := x_bd hf
      refine x_cVv0 C hR hS (S_X3_search  eh6) (x_k hR 54 rfl) (by decide) rfl mf_X3_search tw_1433 (Nat.le_of_ble_eq_true rfl) (Nat.le_of_ble_eq_true rfl) hl.1 (Nat.le_of_ble_eq_true rfl) dX11_plan_137 ⟨Nat.le_of_ble_eq_true rfl, Nat.le_of_ble_eq_true rfl⟩ (fun H locs hR hS => ?_)
      refine lv_iload hx hb dX11_plan_140 (lv_at hl 5 rfl) ?_
      refine lv_iconst (v := (-1)) hx hb dX11_plan_142 rfl ?_
      refine lv_icmp_ne (tgt := 156) hx hb dX11_plan_143 rfl (fun hc => ?_) (fun hc => ?_)
      · have hf := x_in hc hf
        refine lv_aload_n hx hb dX11_plan_156 rfl (lv_at hl 0 rfl) ?_
        refine gf_11_6 C hR (x_k hR 0 rfl) tw_501 dX11_plan_157 ?_
        refine lv_iload hx hb dX11_plan_160 (lv_at hl 5 rfl) ?_
        obtain ⟨v_7, ev_7, hf⟩ := x_bd hf
        refine x_cVi1 C hR hS (S_X3_houseFor  ev_7) (x_k hR 54 rfl) (by decide) rfl mf_X3_houseFor tw_1442 (Nat.le_of_ble_eq_true rfl) (Nat.le_of_ble_eq_true rfl) hl.1 (Nat.le_of_ble_eq_true rfl) dX11_plan_162 ⟨Nat.le_of_ble_eq_true rfl, Nat.le_of_ble_eq_true rfl⟩ (fun H locs hR hS => ?_)
        cases hf
        exact xx_iret C hR hS (Nat.le_of_ble_eq_true rfl) (Nat.le_of_ble_eq_true rfl) dX11_plan_165
      · have hf := x_ip hc hf
        refine lv_aload_n hx hb dX11_plan_146 rfl (lv_at hl 0 rfl) ?_
        refine gf_11_6 C hR (x_k hR 0 rfl) tw_501 dX11_plan_147 ?_
        refine gf_3_5 C hR (x_k hR 54 rfl) tw_456 dX11_plan_150 ?_
        refine lv_goto (tgt := 165) hx hb dX11_plan_153 rfl ?_
        cases hf
        exact xx_iret C hR hS (Nat.le_of_ble_eq_true rfl) (Nat.le_of_ble_eq_true rfl) dX11_plan_165
    · have hf := x_in hc hf
      refine lv_iload_n hx hb dX11_plan_55 rfl (lv_at hl 2 rfl) ?_
      refine lv_iload hx hb dX11_plan_56 (lv_at hl 6 rfl) ?_
      refine lv_ishr hx hb dX11_plan_58 ?_
      refine lv_iconst (v := 1) hx hb dX11_plan_59 rfl ?_
      refine lv_iand hx hb dX11_plan_60 ?_
      refine lv_iconst (v := 1) hx hb dX11_plan_61 rfl ?_
      refine lv_icmp_ne (tgt := 127) hx hb dX11_plan_62 rfl (fun hc => ?_) (fun hc => ?_)
      · have hf := x_in hc hf
        exact B_X11_plan_127  C ih hst  ls _ _ h _ _ _ _ _ _  (lv_sub hl [0, 1, 2, 3, 4, 5, 6] rfl) hR hS hf
      · have hf := x_ip hc hf
        refine lv_aload_n hx hb dX11_plan_65 rfl (lv_at hl 0 rfl) ?_
        refine gf_11_6 C hR (x_k hR 0 rfl) tw_501 dX11_plan_66 ?_
        refine lv_iload hx hb dX11_plan_69 (lv_at hl 6 rfl) ?_
        obtain ⟨h8, eh8, hf⟩ := x_bd hf
        refine x_cVv1 C hR hS (S_X3_addPack  eh8) (x_k hR 54 rfl) (by decide) rfl mf_X3_addPack tw_1425 (Nat.le_of_ble_eq_true rfl) (Nat.le_of_ble_eq_true rfl) hl.1 (Nat.le_of_ble_eq_true rfl) dX11_plan_71 ⟨Nat.le_of_ble_eq_true rfl, Nat.le_of_ble_eq_true rfl⟩ (fun H locs hR hS => ?_)
        refine lv_iconst (v := 0) hx hb dX11_plan_74 rfl ?_
        refine lv_istore (lv' := [(7, _), (0, _), (1, _), (2, _), (3, _), (4, _), (5, _), (6, _)]) hx hb dX11_plan_75 hl (Nat.le_of_ble_eq_true rfl) rfl (fun ls hl => ?_)
        exact B_X11_plan_77  C ih hst x_FU ls _ _ h8 _ _ _ _ _ _ _  (lv_sub hl [1, 2, 3, 4, 5, 6, 7, 0] rfl) hR hS hf
set_option maxRecDepth 20000 in
theorem B_X11_plan_17 {p : Program} {l : Launch} {e : Env} {s : State} {m : MethodId} {args : Array Value} {below : List Frame} {meth : Method} {c : Code} {O : XO} {K : XK} {r : Nat ⊕ Int32} {h' : XH}   (C : x_C p s m args meth c O cX11_plan 8 RX11 (some .int))   (hst : l.stackTraces = false) (ls : Array Slot) (H : Heap) (locs : List Loc) (h : XH) (v1 : Int32) (v2 : Int32) (v3 : Int32) (v4 : Int32) (v5 : Int32) (hl : lv_has ls 8 [(0, .ref (oX O)), (1, .int v1), (2, .int v2), (3, .int v3), (4, .int v4), (5, .int v5)]) (hR : x_R O K h H) (hS : va_S (oA O) s.heap H locs) (hf : f_X11_plan_17 K (oX O) h v1 v2 v3 v4 v5 = some (r, h')) : W p l e (x_rmX 9 745 5 30) s m args below meth c H locs 2 12 (vx_MQ below (x_XQ O K h' (x_rv x_gi r)) (x_XX O K h' (x_rv x_gi r)) args s 5 30 (oA O)) (F0 m 17 ls []) := by
  have hx := C.1
  have hb := C.2.1
  rw [f_X11_plan_17] at hf
  refine lv_aload_n hx hb dX11_plan_17 rfl (lv_at hl 0 rfl) ?_
  refine lv_iload_n hx hb dX11_plan_18 rfl (lv_at hl 2 rfl) ?_
  obtain ⟨s2_, h2, eh2, ht2, hf⟩ := x_xbd hf
  refine x_xVv1 C hR hS (S_X11_checkPlanned hst eh2) (x_k hR 0 rfl) (by decide) rfl mf_X11_checkPlanned tw_1414 (Nat.le_of_ble_eq_true rfl) (Nat.le_of_ble_eq_true rfl) hl.1 (Nat.le_of_ble_eq_true rfl) dX11_plan_19 ⟨Nat.le_of_ble_eq_true rfl, Nat.le_of_ble_eq_true rfl⟩ (x_thx ht2) (Nat.le_of_ble_eq_true rfl) (Nat.le_of_ble_eq_true rfl) (fun hs2 H locs hR hS => ?_)
  have hf := hf () hs2
  refine lv_aload_n hx hb dX11_plan_22 rfl (lv_at hl 0 rfl) ?_
  refine lv_iload_n hx hb dX11_plan_23 rfl (lv_at hl 3 rfl) ?_
  obtain ⟨s3_, h3, eh3, ht3, hf⟩ := x_xbd hf
  refine x_xVv1 C hR hS (S_X11_checkPer hst eh3) (x_k hR 0 rfl) (by decide) rfl mf_X11_checkPer tw_990 (Nat.le_of_ble_eq_true rfl) (Nat.le_of_ble_eq_true rfl) hl.1 (Nat.le_of_ble_eq_true rfl) dX11_plan_24 ⟨Nat.le_of_ble_eq_true rfl, Nat.le_of_ble_eq_true rfl⟩ (x_thx ht3) (Nat.le_of_ble_eq_true rfl) (Nat.le_of_ble_eq_true rfl) (fun hs3 H locs hR hS => ?_)
  have hf := hf () hs3
  refine lv_aload_n hx hb dX11_plan_27 rfl (lv_at hl 0 rfl) ?_
  refine lv_iload hx hb dX11_plan_28 (lv_at hl 4 rfl) ?_
  obtain ⟨s4_, h4, eh4, ht4, hf⟩ := x_xbd hf
  refine x_xVv1 C hR hS (S_X11_checkSeconds hst eh4) (x_k hR 0 rfl) (by decide) rfl mf_X11_checkSeconds tw_995 (Nat.le_of_ble_eq_true rfl) (Nat.le_of_ble_eq_true rfl) hl.1 (Nat.le_of_ble_eq_true rfl) dX11_plan_30 ⟨Nat.le_of_ble_eq_true rfl, Nat.le_of_ble_eq_true rfl⟩ (x_thx ht4) (Nat.le_of_ble_eq_true rfl) (Nat.le_of_ble_eq_true rfl) (fun hs4 H locs hR hS => ?_)
  have hf := hf () hs4
  refine lv_aload_n hx hb dX11_plan_33 rfl (lv_at hl 0 rfl) ?_
  refine gf_11_6 C hR (x_k hR 0 rfl) tw_501 dX11_plan_34 ?_
  obtain ⟨h5, eh5, hf⟩ := x_bd hf
  refine x_cVv0 C hR hS (S_X3_begin  eh5) (x_k hR 54 rfl) (by decide) rfl mf_X3_begin tw_1420 (Nat.le_of_ble_eq_true rfl) (Nat.le_of_ble_eq_true rfl) hl.1 (Nat.le_of_ble_eq_true rfl) dX11_plan_37 ⟨Nat.le_of_ble_eq_true rfl, Nat.le_of_ble_eq_true rfl⟩ (fun H locs hR hS => ?_)
  refine lv_iconst (v := 0) hx hb dX11_plan_40 rfl ?_
  refine lv_istore (lv' := [(6, _), (0, _), (1, _), (2, _), (3, _), (4, _), (5, _)]) hx hb dX11_plan_41 hl (Nat.le_of_ble_eq_true rfl) rfl (fun ls hl => ?_)
  exact B_X11_plan_43  C  hst x_FU ls _ _ h5 _ _ _ _ _ _  (lv_sub hl [1, 2, 3, 4, 5, 6, 0] rfl) hR hS hf
set_option maxRecDepth 20000 in
theorem S_X11_plan {l : Launch} {O : XO} {K : XK} {h : XH} {v1 : Int32} {v2 : Int32} {v3 : Int32} {v4 : Int32} {v5 : Int32}  {r : Nat ⊕ Int32} {h' : XH} (hst : l.stackTraces = false) (hf : f_X11_plan K (oX O) h v1 v2 v3 v4 v5 = some (r, h')) : x_MX l O K yX11_plan cX11_plan 8 (some .int) 9 745 5 30 h [.ref (oX O), .int v1, .int v2, .int v3, .int v4, .int v5] (x_rv x_gi r) h' := by
  refine x_enterX (by decide) (Nat.le_of_ble_eq_true rfl) (fun p e s m args below meth c C hR ls hl => ?_)
  have hS : va_S (oA O) s.heap s.heap [] := va_S.rf
  have hx := C.1
  have hb := C.2.1
  have hl : lv_has ls 8 [(0, .ref (oX O)), (1, .int v1), (2, .int v2), (3, .int v3), (4, .int v4), (5, .int v5)] := hl
  rw [f_X11_plan] at hf
  refine lv_aload_n hx hb dX11_plan_0 rfl (lv_at hl 0 rfl) ?_
  refine lv_iload_n hx hb dX11_plan_1 rfl (lv_at hl 1 rfl) ?_
  obtain ⟨s1_, h1, eh1, ht1, hf⟩ := x_xbd hf
  refine x_xVv1 C hR hS (S_X11_checkLaw hst eh1) (x_k hR 0 rfl) (by decide) rfl mf_X11_checkLaw tw_1102 (Nat.le_of_ble_eq_true rfl) (Nat.le_of_ble_eq_true rfl) hl.1 (Nat.le_of_ble_eq_true rfl) dX11_plan_2 ⟨Nat.le_of_ble_eq_true rfl, Nat.le_of_ble_eq_true rfl⟩ (x_thx ht1) (Nat.le_of_ble_eq_true rfl) (Nat.le_of_ble_eq_true rfl) (fun hs1 H locs hR hS => ?_)
  have hf := hf () hs1
  refine lv_iload hx hb dX11_plan_5 (lv_at hl 5 rfl) ?_
  refine lv_iconst (v := (-1)) hx hb dX11_plan_7 rfl ?_
  refine lv_icmp_eq (tgt := 17) hx hb dX11_plan_8 rfl (fun hc => ?_) (fun hc => ?_)
  · have hf := x_ip hc hf
    refine W.widen (k := 2) (n := 12) (Nat.le_of_ble_eq_true rfl) (Nat.le_of_ble_eq_true rfl) ?_
    exact B_X11_plan_17  C  hst  ls _ _ h1 _ _ _ _ _  (lv_sub hl [0, 1, 2, 3, 4, 5] rfl) hR hS hf
  · have hf := x_in hc hf
    refine lv_aload_n hx hb dX11_plan_11 rfl (lv_at hl 0 rfl) ?_
    refine lv_iload hx hb dX11_plan_12 (lv_at hl 5 rfl) ?_
    obtain ⟨s12_, h12, eh12, ht12, hf⟩ := x_xbd hf
    refine x_xVv1 C hR hS (S_X11_checkPack hst eh12) (x_k hR 0 rfl) (by decide) rfl mf_X11_checkPack tw_959 (Nat.le_of_ble_eq_true rfl) (Nat.le_of_ble_eq_true rfl) hl.1 (Nat.le_of_ble_eq_true rfl) dX11_plan_14 ⟨Nat.le_of_ble_eq_true rfl, Nat.le_of_ble_eq_true rfl⟩ (x_thx ht12) (Nat.le_of_ble_eq_true rfl) (Nat.le_of_ble_eq_true rfl) (fun hs12 H locs hR hS => ?_)
    have hf := hf () hs12
    exact B_X11_plan_17  C  hst  ls _ _ h12 _ _ _ _ _  (lv_sub hl [0, 1, 2, 3, 4, 5] rfl) hR hS hf
def f_X11_last_16 (K : XK) (x : Nat) (h : XH) : Option ((Nat ⊕ Int32) × XH) := some (.inl 1, h)
def f_X11_last_150 (k36 : XH → Int32 → Int32 → Int32 → Int32 → Int32 → Int32 → Option ((Nat ⊕ Int32) × XH)) (K : XK) (x : Nat) (h : XH) (v1 : Int32) (v2 : Int32) (v3 : Int32) (v4 : Int32) (v5 : Int32) (v6 : Int32) : Option ((Nat ⊕ Int32) × XH) := k36 h v1 v2 v3 v4 v5 (v6 + 1)
def f_X11_last_36 (K : XK) (x : Nat) : Nat → XH → Int32 → Int32 → Int32 → Int32 → Int32 → Int32 → Option ((Nat ⊕ Int32) × XH)
  | 0, _, _, _, _, _, _, _ => none
  | n + 1, h, v1, v2, v3, v4, v5, v6 => if (h.1 (x + 9) 4) ≤ v6 then some (.inr v4, h) else if ((x_shr v2 v6) &&& 1) = 1 then if x_b v6 8 = true then if (h.1 ((x + 13) + 6 + 3 * v6.toNatClampNeg) 3) = 0 then f_X11_last_150 (f_X11_last_36 K x n) K x h v1 v2 v3 v4 v5 v6 else if x_b v1 3 = true then Option.bind (f_X5_sumAt K x h (h.2.2 (x + 14) v1.toNatClampNeg) v6 (h.1 (x + 9) 7)) (fun q4 => if x_b v1 3 = true then Option.bind (f_X5_sumAt K x q4.2 (q4.2.2.2 (x + 14) v1.toNatClampNeg) v6 ((q4.2.1 (x + 9) 7) + v3)) (fun q6 => f_X11_last_150 (f_X11_last_36 K x n) K x q6.2 v1 v2 v3 (if v4 = (-1) then v6 else (if v5 ≤ (q4.1 - q6.1) then v4 else v6)) (if v4 = (-1) then (q4.1 - q6.1) else (if v5 ≤ (q4.1 - q6.1) then v5 else (q4.1 - q6.1))) v6) else none) else none else none else f_X11_last_150 (f_X11_last_36 K x n) K x h v1 v2 v3 v4 v5 v6
def f_X11_last (K : XK) (x : Nat) (h : XH) (v1 : Int32) (v2 : Int32) (v3 : Int32) : Option ((Nat ⊕ Int32) × XH) := x_xb (f_X11_checkLaw x h v1) (fun _ h1 => if v3 < 0 then f_X11_last_16 K x h1 else if v3 ≤ 9999 then f_X11_last_36 K x x_FU h1 v1 v2 v3 (-1) 0 0 else f_X11_last_16 K x h1)
set_option maxRecDepth 20000 in
theorem B_X11_last_16 {p : Program} {l : Launch} {e : Env} {s : State} {m : MethodId} {args : Array Value} {below : List Frame} {meth : Method} {c : Code} {O : XO} {K : XK} {r : Nat ⊕ Int32} {h' : XH}   (C : x_C p s m args meth c O cX11_last 8 RX11 (some .int))   (hst : l.stackTraces = false) (ls : Array Slot) (H : Heap) (locs : List Loc) (h : XH) (hl : lv_has ls 8 []) (hR : x_R O K h H) (hS : va_S (oA O) s.heap H locs) (hf : f_X11_last_16 K (oX O) h = some (r, h')) : W p l e (x_rmX 7 153 2 12) s m args below meth c H locs 1 6 (vx_MQ below (x_XQ O K h' (x_rv x_gi r)) (x_XX O K h' (x_rv x_gi r)) args s 2 12 (oA O)) (F0 m 16 ls []) := by
  have hx := C.1
  have hb := C.2.1
  rw [f_X11_last_16] at hf
  cases hf
  exact x_thrW tf_1 C hR hS hst hl.1 (xs_43 C) dX11_last_16 dX11_last_19 dX11_last_20 dX11_last_23 dX11_last_26 (Nat.le_of_ble_eq_true rfl) (by decide) (Nat.le_of_ble_eq_true rfl) (Nat.le_of_ble_eq_true rfl) (Nat.le_of_ble_eq_true rfl) (Nat.le_of_ble_eq_true rfl)
set_option maxRecDepth 20000 in
theorem B_X11_last_150 {p : Program} {l : Launch} {e : Env} {s : State} {m : MethodId} {args : Array Value} {below : List Frame} {meth : Method} {c : Code} {O : XO} {K : XK} {r : Nat ⊕ Int32} {h' : XH}  {k36 : XH → Int32 → Int32 → Int32 → Int32 → Int32 → Int32 → Option ((Nat ⊕ Int32) × XH)} (C : x_C p s m args meth c O cX11_last 8 RX11 (some .int)) (hk36 : ∀ (ls : Array Slot) (H : Heap) (locs : List Loc) (h : XH) (v1 : Int32) (v2 : Int32) (v3 : Int32) (v4 : Int32) (v5 : Int32) (v6 : Int32), lv_has ls 8 [(0, .ref (oX O)), (1, .int v1), (2, .int v2), (3, .int v3), (4, .int v4), (5, .int v5), (6, .int v6)] → x_R O K h H → va_S (oA O) s.heap H locs → k36 h v1 v2 v3 v4 v5 v6 = some (r, h') → W p l e (x_rmX 7 153 2 12) s m args below meth c H locs 1 6 (vx_MQ below (x_XQ O K h' (x_rv x_gi r)) (x_XX O K h' (x_rv x_gi r)) args s 2 12 (oA O)) (F0 m 36 ls []))  (hst : l.stackTraces = false) (ls : Array Slot) (H : Heap) (locs : List Loc) (h : XH) (v1 : Int32) (v2 : Int32) (v3 : Int32) (v4 : Int32) (v5 : Int32) (v6 : Int32) (hl : lv_has ls 8 [(0, .ref (oX O)), (1, .int v1), (2, .int v2), (3, .int v3), (4, .int v4), (5, .int v5), (6, .int v6)]) (hR : x_R O K h H) (hS : va_S (oA O) s.heap H locs) (hf : f_X11_last_150 k36 K (oX O) h v1 v2 v3 v4 v5 v6 = some (r, h')) : W p l e (x_rmX 7 153 2 12) s m args below meth c H locs 1 6 (vx_MQ below (x_XQ O K h' (x_rv x_gi r)) (x_XX O K h' (x_rv x_gi r)) args s 2 12 (oA O)) (F0 m 150 ls []) := by
  have hx := C.1
  have hb := C.2.1
  rw [f_X11_last_150] at hf
  refine lv_iinc (k := 6) (v := _ + 1) (lv' := [(6, _), (0, _), (1, _), (2, _), (3, _), (4, _), (5, _)]) hx hb dX11_last_150 hl rfl (x_inc 1 1 rfl _) (Nat.le_of_ble_eq_true rfl) rfl (fun ls hl => ?_)
  refine lv_goto (tgt := 36) hx hb dX11_last_153 rfl ?_
  exact hk36 ls _ _ h _ _ _ _ _ _  (lv_sub hl [1, 2, 3, 4, 5, 6, 0] rfl) hR hS hf
set_option maxRecDepth 20000 in
theorem B_X11_last_36 {p : Program} {l : Launch} {e : Env} {s : State} {m : MethodId} {args : Array Value} {below : List Frame} {meth : Method} {c : Code} {O : XO} {K : XK} {r : Nat ⊕ Int32} {h' : XH}   (C : x_C p s m args meth c O cX11_last 8 RX11 (some .int))   (hst : l.stackTraces = false) : ∀ (n : Nat) (ls : Array Slot) (H : Heap) (locs : List Loc) (h : XH) (v1 : Int32) (v2 : Int32) (v3 : Int32) (v4 : Int32) (v5 : Int32) (v6 : Int32) (hl : lv_has ls 8 [(0, .ref (oX O)), (1, .int v1), (2, .int v2), (3, .int v3), (4, .int v4), (5, .int v5), (6, .int v6)]) (hR : x_R O K h H) (hS : va_S (oA O) s.heap H locs) (hf : f_X11_last_36 K (oX O) n h v1 v2 v3 v4 v5 v6 = some (r, h')), W p l e (x_rmX 7 153 2 12) s m args below meth c H locs 1 6 (vx_MQ below (x_XQ O K h' (x_rv x_gi r)) (x_XX O K h' (x_rv x_gi r)) args s 2 12 (oA O)) (F0 m 36 ls []) := by
  have hx := C.1
  have hb := C.2.1
  intro n
  induction n with
  | zero =>
    intro ls H locs h v1 v2 v3 v4 v5 v6 hl hR hS hf
    rw [f_X11_last_36] at hf
    cases hf
  | succ n ih =>
    intro ls H locs h v1 v2 v3 v4 v5 v6 hl hR hS hf
    rw [f_X11_last_36] at hf
    refine lv_iload hx hb dX11_last_36 (lv_at hl 6 rfl) ?_
    refine lv_aload_n hx hb dX11_last_38 rfl (lv_at hl 0 rfl) ?_
    refine gf_11_1 C hR (x_k hR 0 rfl) tw_496 dX11_last_39 ?_
    refine gf_7_4 C hR (x_k hR 9 rfl) tw_299 dX11_last_42 ?_
    refine lv_icmp_ge (tgt := 156) hx hb dX11_last_45 rfl (fun hc => ?_) (fun hc => ?_)
    · have hf := x_ip hc hf
      refine lv_iload hx hb dX11_last_156 (lv_at hl 4 rfl) ?_
      cases hf
      exact xx_iret C hR hS (Nat.le_of_ble_eq_true rfl) (Nat.le_of_ble_eq_true rfl) dX11_last_158
    · have hf := x_in hc hf
      refine lv_iload_n hx hb dX11_last_48 rfl (lv_at hl 2 rfl) ?_
      refine lv_iload hx hb dX11_last_49 (lv_at hl 6 rfl) ?_
      refine lv_ishr hx hb dX11_last_51 ?_
      refine lv_iconst (v := 1) hx hb dX11_last_52 rfl ?_
      refine lv_iand hx hb dX11_last_53 ?_
      refine lv_iconst (v := 1) hx hb dX11_last_54 rfl ?_
      refine lv_icmp_ne (tgt := 150) hx hb dX11_last_55 rfl (fun hc => ?_) (fun hc => ?_)
      · have hf := x_in hc hf
        exact B_X11_last_150  C ih hst  ls _ _ h _ _ _ _ _ _  (lv_sub hl [0, 1, 2, 3, 4, 5, 6] rfl) hR hS hf
      · have hf := x_ip hc hf
        refine lv_aload_n hx hb dX11_last_58 rfl (lv_at hl 0 rfl) ?_
        refine gf_11_1 C hR (x_k hR 0 rfl) tw_496 dX11_last_59 ?_
        refine gf_7_5 C hR (x_k hR 9 rfl) tw_305 dX11_last_62 ?_
        refine lv_iload hx hb dX11_last_65 (lv_at hl 6 rfl) ?_
        obtain ⟨g2, hf⟩ := x_gd hf
        refine x_paald C hR (x_k1 (x_k hR 13 rfl)) (x_k2 (x_k hR 13 rfl) g2) dX11_last_67 ?_
        refine gf_2_3 C hR (x_kP hR (x_k hR 13 rfl) g2) tw_261 dX11_last_68 ?_
        refine lv_if_eq (tgt := 150) hx hb dX11_last_71 rfl (fun hc => ?_) (fun hc => ?_)
        · have hf := x_ip hc hf
          exact B_X11_last_150  C ih hst  ls _ _ h _ _ _ _ _ _  (lv_sub hl [0, 1, 2, 3, 4, 5, 6] rfl) hR hS hf
        · have hf := x_in hc hf
          refine lv_aload_n hx hb dX11_last_74 rfl (lv_at hl 0 rfl) ?_
          refine gf_11_3 C hR (x_k hR 0 rfl) tw_498 dX11_last_75 ?_
          refine lv_aload_n hx hb dX11_last_78 rfl (lv_at hl 0 rfl) ?_
          refine gf_11_1 C hR (x_k hR 0 rfl) tw_496 dX11_last_79 ?_
          refine gf_7_9 C hR (x_k hR 9 rfl) tw_316 dX11_last_82 ?_
          refine lv_iload_n hx hb dX11_last_85 rfl (lv_at hl 1 rfl) ?_
          obtain ⟨g3, hf⟩ := x_gd hf
          refine x_taald C hR (x_k1 (x_k hR 14 rfl)) (x_k2 (x_k hR 14 rfl) g3) dX11_last_86 ?_
          refine lv_iload hx hb dX11_last_87 (lv_at hl 6 rfl) ?_
          refine lv_aload_n hx hb dX11_last_89 rfl (lv_at hl 0 rfl) ?_
          refine gf_11_1 C hR (x_k hR 0 rfl) tw_496 dX11_last_90 ?_
          refine gf_7_7 C hR (x_k hR 9 rfl) tw_312 dX11_last_93 ?_
          obtain ⟨q4, eq4, hf⟩ := x_bd hf
          refine x_cVi3 C hR hS (S_X5_sumAt (x_kT hR (x_k hR 14 rfl)) eq4) (x_k hR 46 rfl) (by decide) rfl mf_X5_sumAt tw_1145 (Nat.le_of_ble_eq_true rfl) (Nat.le_of_ble_eq_true rfl) hl.1 (Nat.le_of_ble_eq_true rfl) dX11_last_96 ⟨Nat.le_of_ble_eq_true rfl, Nat.le_of_ble_eq_true rfl⟩ (fun H locs hR hS => ?_)
          refine lv_aload_n hx hb dX11_last_99 rfl (lv_at hl 0 rfl) ?_
          refine gf_11_3 C hR (x_k hR 0 rfl) tw_498 dX11_last_100 ?_
          refine lv_aload_n hx hb dX11_last_103 rfl (lv_at hl 0 rfl) ?_
          refine gf_11_1 C hR (x_k hR 0 rfl) tw_496 dX11_last_104 ?_
          refine gf_7_9 C hR (x_k hR 9 rfl) tw_316 dX11_last_107 ?_
          refine lv_iload_n hx hb dX11_last_110 rfl (lv_at hl 1 rfl) ?_
          obtain ⟨g5, hf⟩ := x_gd hf
          refine x_taald C hR (x_k1 (x_k hR 14 rfl)) (x_k2 (x_k hR 14 rfl) g5) dX11_last_111 ?_
          refine lv_iload hx hb dX11_last_112 (lv_at hl 6 rfl) ?_
          refine lv_aload_n hx hb dX11_last_114 rfl (lv_at hl 0 rfl) ?_
          refine gf_11_1 C hR (x_k hR 0 rfl) tw_496 dX11_last_115 ?_
          refine gf_7_7 C hR (x_k hR 9 rfl) tw_312 dX11_last_118 ?_
          refine lv_iload_n hx hb dX11_last_121 rfl (lv_at hl 3 rfl) ?_
          refine lv_iadd hx hb dX11_last_122 ?_
          obtain ⟨q6, eq6, hf⟩ := x_bd hf
          refine x_cVi3 C hR hS (S_X5_sumAt (x_kT hR (x_k hR 14 rfl)) eq6) (x_k hR 46 rfl) (by decide) rfl mf_X5_sumAt tw_1145 (Nat.le_of_ble_eq_true rfl) (Nat.le_of_ble_eq_true rfl) hl.1 (Nat.le_of_ble_eq_true rfl) dX11_last_123 ⟨Nat.le_of_ble_eq_true rfl, Nat.le_of_ble_eq_true rfl⟩ (fun H locs hR hS => ?_)
          refine lv_isub hx hb dX11_last_126 ?_
          refine lv_istore (lv' := [(7, _), (0, _), (1, _), (2, _), (3, _), (4, _), (5, _), (6, _)]) hx hb dX11_last_127 hl (Nat.le_of_ble_eq_true rfl) rfl (fun ls hl => ?_)
          refine lv_iload hx hb dX11_last_129 (lv_at hl 5 rfl) ?_
          refine lv_iconst (v := (-1)) hx hb dX11_last_131 rfl ?_
          have kM7 : ∀ (ls : Array Slot) (H : Heap) (locs : List Loc), lv_has ls 8 [(0, .ref (oX O)), (1, .int v1), (2, .int v2), (3, .int v3), (4, .int (if v4 = (-1) then v6 else (if v5 ≤ (q4.1 - q6.1) then v4 else v6))), (5, .int (if v4 = (-1) then (q4.1 - q6.1) else (if v5 ≤ (q4.1 - q6.1) then v5 else (q4.1 - q6.1)))), (6, .int v6)] → x_R O K q6.2 H → va_S (oA O) s.heap H locs → W p l e (x_rmX 7 153 2 12) s m args below meth c H locs 1 6 (vx_MQ below (x_XQ O K h' (x_rv x_gi r)) (x_XX O K h' (x_rv x_gi r)) args s 2 12 (oA O)) (F0 m 150 ls []) := by
            intro ls H locs hl hR hS
            exact B_X11_last_150  C ih hst  ls _ _ q6.2 _ _ _ _ _ _  (lv_sub hl [0, 1, 2, 3, 4, 5, 6] rfl) hR hS hf
          refine lv_icmp_eq (tgt := 142) hx hb dX11_last_132 rfl (fun hc => ?_) (fun hc => ?_)
          · try simp only [if_pos hc] at kM7
            refine lv_iload hx hb dX11_last_142 (lv_at hl 7 rfl) ?_
            refine lv_istore (lv' := [(4, _), (7, _), (0, _), (1, _), (2, _), (3, _), (5, _), (6, _)]) hx hb dX11_last_144 hl (Nat.le_of_ble_eq_true rfl) rfl (fun ls hl => ?_)
            refine lv_iload hx hb dX11_last_146 (lv_at hl 1 rfl) ?_
            refine lv_istore (lv' := [(5, _), (4, _), (7, _), (0, _), (1, _), (2, _), (3, _), (6, _)]) hx hb dX11_last_148 hl (Nat.le_of_ble_eq_true rfl) rfl (fun ls hl => ?_)
            exact kM7 ls _ _ (lv_sub hl [3, 4, 5, 6, 1, 0, 7] rfl) hR hS
          · try simp only [if_neg hc] at kM7
            refine lv_iload hx hb dX11_last_135 (lv_at hl 0 rfl) ?_
            refine lv_iload hx hb dX11_last_137 (lv_at hl 6 rfl) ?_
            refine lv_icmp_ge (tgt := 150) hx hb dX11_last_139 rfl (fun hc => ?_) (fun hc => ?_)
            · try simp only [if_pos hc] at kM7
              exact kM7 ls _ _ (lv_sub hl [1, 2, 3, 4, 5, 6, 7] rfl) hR hS
            · try simp only [if_neg hc] at kM7
              refine lv_iload hx hb dX11_last_142 (lv_at hl 7 rfl) ?_
              refine lv_istore (lv' := [(4, _), (7, _), (0, _), (1, _), (2, _), (3, _), (5, _), (6, _)]) hx hb dX11_last_144 hl (Nat.le_of_ble_eq_true rfl) rfl (fun ls hl => ?_)
              refine lv_iload hx hb dX11_last_146 (lv_at hl 1 rfl) ?_
              refine lv_istore (lv' := [(5, _), (4, _), (7, _), (0, _), (1, _), (2, _), (3, _), (6, _)]) hx hb dX11_last_148 hl (Nat.le_of_ble_eq_true rfl) rfl (fun ls hl => ?_)
              exact kM7 ls _ _ (lv_sub hl [3, 4, 5, 6, 1, 0, 7] rfl) hR hS
set_option maxRecDepth 20000 in
theorem S_X11_last {l : Launch} {O : XO} {K : XK} {h : XH} {v1 : Int32} {v2 : Int32} {v3 : Int32}  {r : Nat ⊕ Int32} {h' : XH} (hst : l.stackTraces = false) (hf : f_X11_last K (oX O) h v1 v2 v3 = some (r, h')) : x_MX l O K yX11_last cX11_last 8 (some .int) 7 153 2 12 h [.ref (oX O), .int v1, .int v2, .int v3] (x_rv x_gi r) h' := by
  refine x_enterX (by decide) (Nat.le_of_ble_eq_true rfl) (fun p e s m args below meth c C hR ls hl => ?_)
  have hS : va_S (oA O) s.heap s.heap [] := va_S.rf
  have hx := C.1
  have hb := C.2.1
  have hl : lv_has ls 8 [(0, .ref (oX O)), (1, .int v1), (2, .int v2), (3, .int v3)] := hl
  rw [f_X11_last] at hf
  refine lv_aload_n hx hb dX11_last_0 rfl (lv_at hl 0 rfl) ?_
  refine lv_iload_n hx hb dX11_last_1 rfl (lv_at hl 1 rfl) ?_
  obtain ⟨s1_, h1, eh1, ht1, hf⟩ := x_xbd hf
  refine x_xVv1 C hR hS (S_X11_checkLaw hst eh1) (x_k hR 0 rfl) (by decide) rfl mf_X11_checkLaw tw_1102 (Nat.le_of_ble_eq_true rfl) (Nat.le_of_ble_eq_true rfl) hl.1 (Nat.le_of_ble_eq_true rfl) dX11_last_2 ⟨Nat.le_of_ble_eq_true rfl, Nat.le_of_ble_eq_true rfl⟩ (x_thx ht1) (Nat.le_of_ble_eq_true rfl) (Nat.le_of_ble_eq_true rfl) (fun hs1 H locs hR hS => ?_)
  have hf := hf () hs1
  refine lv_iload_n hx hb dX11_last_5 rfl (lv_at hl 3 rfl) ?_
  refine lv_if_lt (tgt := 16) hx hb dX11_last_6 rfl (fun hc => ?_) (fun hc => ?_)
  · have hf := x_ip hc hf
    exact B_X11_last_16  C  hst  ls _ _ h1  (lv_sub hl [] rfl) hR hS hf
  · have hf := x_in hc hf
    refine lv_iload_n hx hb dX11_last_9 rfl (lv_at hl 3 rfl) ?_
    refine lv_sipush (v := 9999) hx hb dX11_last_10 rfl ?_
    refine lv_icmp_le (tgt := 27) hx hb dX11_last_13 rfl (fun hc => ?_) (fun hc => ?_)
    · have hf := x_ip hc hf
      refine lv_iconst (v := (-1)) hx hb dX11_last_27 rfl ?_
      refine lv_istore (lv' := [(4, _), (0, _), (1, _), (2, _), (3, _)]) hx hb dX11_last_28 hl (Nat.le_of_ble_eq_true rfl) rfl (fun ls hl => ?_)
      refine lv_iconst (v := 0) hx hb dX11_last_30 rfl ?_
      refine lv_istore (lv' := [(5, _), (4, _), (0, _), (1, _), (2, _), (3, _)]) hx hb dX11_last_31 hl (Nat.le_of_ble_eq_true rfl) rfl (fun ls hl => ?_)
      refine lv_iconst (v := 0) hx hb dX11_last_33 rfl ?_
      refine lv_istore (lv' := [(6, _), (5, _), (4, _), (0, _), (1, _), (2, _), (3, _)]) hx hb dX11_last_34 hl (Nat.le_of_ble_eq_true rfl) rfl (fun ls hl => ?_)
      exact B_X11_last_36  C  hst x_FU ls _ _ h1 _ _ _ _ _ _  (lv_sub hl [3, 4, 5, 6, 2, 1, 0] rfl) hR hS hf
    · have hf := x_in hc hf
      exact B_X11_last_16  C  hst  ls _ _ h1  (lv_sub hl [] rfl) hR hS hf
def f_X11_rates_11 (x : Nat) (h : XH) : Option ((Nat ⊕ Int32) × XH) := some (.inl 1, h)
def f_X11_rates_31 (x : Nat) (h : XH) : Option ((Nat ⊕ Int32) × XH) := some (.inl 4, h)
def f_X11_rates_135 (x : Nat) (h : XH) : Option ((Nat ⊕ Int32) × XH) := some (.inr (-1), h)
def f_X11_rates_53 (x : Nat) : Nat → XH → Int32 → Int32 → Int32 → Int32 → Int32 → Int32 → Option ((Nat ⊕ Int32) × XH)
  | 0, _, _, _, _, _, _, _ => none
  | n + 1, h, v1, v2, v3, v4, v5, v6 => if 100 < v6 then if v2 = 0 then some (.inr v3, h) else if 2 < v2 then if v3 = 0 then f_X11_rates_135 x h else if 1 ≤ (h.1 (x + 9) 15) then Option.bind (f_X11_nextWeekEdge x h v1 (if v2 = 3 then 1 else 0) v4 v5) (fun v_2 => some (.inr v_2, h)) else f_X11_rates_135 x h else some (.inr (if v2 = 1 then v4 else v5), h) else Option.bind (f_X11_isRate x h v6 v1) (fun v_4 => f_X11_rates_53 x n h v1 v2 (if v_4 = 0 then v3 else (v3 + 1)) (if v_4 = 0 then v4 else (if v3 = 0 then v6 else v4)) (if v_4 = 0 then v5 else v6) (v6 + 1))
def f_X11_rates (x : Nat) (h : XH) (v1 : Int32) (v2 : Int32) : Option ((Nat ⊕ Int32) × XH) := if v1 < 0 then f_X11_rates_11 x h else if v1 ≤ 9999 then if v2 < 0 then f_X11_rates_31 x h else if v2 ≤ 4 then f_X11_rates_53 x x_FU h v1 v2 0 (-1) (-1) 0 else f_X11_rates_31 x h else f_X11_rates_11 x h
set_option maxRecDepth 20000 in
theorem B_X11_rates_11 {p : Program} {l : Launch} {e : Env} {s : State} {m : MethodId} {args : Array Value} {below : List Frame} {meth : Method} {c : Code} {O : XO} {K : XK} {r : Nat ⊕ Int32} {h' : XH}   (C : x_C p s m args meth c O cX11_rates 7 RX11 (some .int))   (hst : l.stackTraces = false) (ls : Array Slot) (H : Heap) (locs : List Loc) (h : XH) (hl : lv_has ls 7 []) (hR : x_R O K h H) (hS : va_S (oA O) s.heap H locs) (hf : f_X11_rates_11 (oX O) h = some (r, h')) : W p l e (x_rmX 6 95 1 6) s m args below meth c H locs 0 0 (vx_MQ below (x_XQ O K h' (x_rv x_gi r)) (x_XX O K h' (x_rv x_gi r)) args s 1 6 (oA O)) (F0 m 11 ls []) := by
  have hx := C.1
  have hb := C.2.1
  rw [f_X11_rates_11] at hf
  cases hf
  exact x_thrW tf_1 C hR hS hst hl.1 (xs_48 C) dX11_rates_11 dX11_rates_14 dX11_rates_15 dX11_rates_18 dX11_rates_21 (Nat.le_of_ble_eq_true rfl) (by decide) (Nat.le_of_ble_eq_true rfl) (Nat.le_of_ble_eq_true rfl) (Nat.le_of_ble_eq_true rfl) (Nat.le_of_ble_eq_true rfl)
set_option maxRecDepth 20000 in
theorem B_X11_rates_31 {p : Program} {l : Launch} {e : Env} {s : State} {m : MethodId} {args : Array Value} {below : List Frame} {meth : Method} {c : Code} {O : XO} {K : XK} {r : Nat ⊕ Int32} {h' : XH}   (C : x_C p s m args meth c O cX11_rates 7 RX11 (some .int))   (hst : l.stackTraces = false) (ls : Array Slot) (H : Heap) (locs : List Loc) (h : XH) (hl : lv_has ls 7 []) (hR : x_R O K h H) (hS : va_S (oA O) s.heap H locs) (hf : f_X11_rates_31 (oX O) h = some (r, h')) : W p l e (x_rmX 6 95 1 6) s m args below meth c H locs 0 0 (vx_MQ below (x_XQ O K h' (x_rv x_gi r)) (x_XX O K h' (x_rv x_gi r)) args s 1 6 (oA O)) (F0 m 31 ls []) := by
  have hx := C.1
  have hb := C.2.1
  rw [f_X11_rates_31] at hf
  cases hf
  exact x_thr4W tf_4 C hR hS hst hl.1 (xs_49 C) dX11_rates_31 dX11_rates_34 dX11_rates_35 dX11_rates_38 dX11_rates_41 (Nat.le_of_ble_eq_true rfl) (by decide) (Nat.le_of_ble_eq_true rfl) (Nat.le_of_ble_eq_true rfl) (Nat.le_of_ble_eq_true rfl) (Nat.le_of_ble_eq_true rfl)
set_option maxRecDepth 20000 in
theorem B_X11_rates_135 {p : Program} {l : Launch} {e : Env} {s : State} {m : MethodId} {args : Array Value} {below : List Frame} {meth : Method} {c : Code} {O : XO} {K : XK} {r : Nat ⊕ Int32} {h' : XH}   (C : x_C p s m args meth c O cX11_rates 7 RX11 (some .int))   (hst : l.stackTraces = false) (ls : Array Slot) (H : Heap) (locs : List Loc) (h : XH) (hl : lv_has ls 7 []) (hR : x_R O K h H) (hS : va_S (oA O) s.heap H locs) (hf : f_X11_rates_135 (oX O) h = some (r, h')) : W p l e (x_rmX 6 95 1 6) s m args below meth c H locs 0 0 (vx_MQ below (x_XQ O K h' (x_rv x_gi r)) (x_XX O K h' (x_rv x_gi r)) args s 1 6 (oA O)) (F0 m 135 ls []) := by
  have hx := C.1
  have hb := C.2.1
  rw [f_X11_rates_135] at hf
  refine lv_iconst (v := (-1)) hx hb dX11_rates_135 rfl ?_
  cases hf
  exact xx_iret C hR hS (Nat.le_of_ble_eq_true rfl) (Nat.le_of_ble_eq_true rfl) dX11_rates_136
set_option maxRecDepth 20000 in
theorem B_X11_rates_53 {p : Program} {l : Launch} {e : Env} {s : State} {m : MethodId} {args : Array Value} {below : List Frame} {meth : Method} {c : Code} {O : XO} {K : XK} {r : Nat ⊕ Int32} {h' : XH}   (C : x_C p s m args meth c O cX11_rates 7 RX11 (some .int))   (hst : l.stackTraces = false) : ∀ (n : Nat) (ls : Array Slot) (H : Heap) (locs : List Loc) (h : XH) (v1 : Int32) (v2 : Int32) (v3 : Int32) (v4 : Int32) (v5 : Int32) (v6 : Int32) (hl : lv_has ls 7 [(0, .ref (oX O)), (1, .int v1), (2, .int v2), (3, .int v3), (4, .int v4), (5, .int v5), (6, .int v6)]) (hR : x_R O K h H) (hS : va_S (oA O) s.heap H locs) (hf : f_X11_rates_53 (oX O) n h v1 v2 v3 v4 v5 v6 = some (r, h')), W p l e (x_rmX 6 95 1 6) s m args below meth c H locs 0 0 (vx_MQ below (x_XQ O K h' (x_rv x_gi r)) (x_XX O K h' (x_rv x_gi r)) args s 1 6 (oA O)) (F0 m 53 ls []) := by
  have hx := C.1
  have hb := C.2.1
  intro n
  induction n with
  | zero =>
    intro ls H locs h v1 v2 v3 v4 v5 v6 hl hR hS hf
    rw [f_X11_rates_53] at hf
    cases hf
  | succ n ih =>
    intro ls H locs h v1 v2 v3 v4 v5 v6 hl hR hS hf
    rw [f_X11_rates_53] at hf
    refine lv_iload hx hb dX11_rates_53 (lv_at hl 6 rfl) ?_
    refine lv_bipush (v := 100) hx hb dX11_rates_55 rfl ?_
    refine lv_icmp_gt (tgt := 96) hx hb dX11_rates_57 rfl (fun hc => ?_) (fun hc => ?_)
    · have hf := x_ip hc hf
      refine lv_iload_n hx hb dX11_rates_96 rfl (lv_at hl 2 rfl) ?_
      refine lv_if_ne (tgt := 102) hx hb dX11_rates_97 rfl (fun hc => ?_) (fun hc => ?_)
      · have hf := x_in hc hf
        refine lv_iload_n hx hb dX11_rates_102 rfl (lv_at hl 2 rfl) ?_
        refine lv_iconst (v := 2) hx hb dX11_rates_103 rfl ?_
        refine lv_icmp_gt (tgt := 120) hx hb dX11_rates_104 rfl (fun hc => ?_) (fun hc => ?_)
        · have hf := x_ip hc hf
          refine lv_iload_n hx hb dX11_rates_120 rfl (lv_at hl 3 rfl) ?_
          refine lv_if_eq (tgt := 135) hx hb dX11_rates_121 rfl (fun hc => ?_) (fun hc => ?_)
          · have hf := x_ip hc hf
            exact B_X11_rates_135  C  hst  ls _ _ h  (lv_sub hl [] rfl) hR hS hf
          · have hf := x_in hc hf
            refine lv_aload_n hx hb dX11_rates_124 rfl (lv_at hl 0 rfl) ?_
            refine gf_11_1 C hR (x_k hR 0 rfl) tw_496 dX11_rates_125 ?_
            refine gf_7_15 C hR (x_k hR 9 rfl) tw_330 dX11_rates_128 ?_
            refine lv_iconst (v := 1) hx hb dX11_rates_131 rfl ?_
            refine lv_icmp_ge (tgt := 137) hx hb dX11_rates_132 rfl (fun hc => ?_) (fun hc => ?_)
            · have hf := x_ip hc hf
              refine lv_aload_n hx hb dX11_rates_137 rfl (lv_at hl 0 rfl) ?_
              refine lv_iload_n hx hb dX11_rates_138 rfl (lv_at hl 1 rfl) ?_
              refine lv_iload_n hx hb dX11_rates_139 rfl (lv_at hl 2 rfl) ?_
              refine lv_iconst (v := 3) hx hb dX11_rates_140 rfl ?_
              have kM1 : ∀ (ls : Array Slot) (H : Heap) (locs : List Loc), lv_has ls 7 [(4, .int v4), (5, .int v5)] → x_R O K h H → va_S (oA O) s.heap H locs → W p l e (x_rmX 6 95 1 6) s m args below meth c H locs 0 0 (vx_MQ below (x_XQ O K h' (x_rv x_gi r)) (x_XX O K h' (x_rv x_gi r)) args s 1 6 (oA O)) (F0 m 149 ls [.int (if v2 = 3 then 1 else 0), .int v1, .ref (oX O)]) := by
                intro ls H locs hl hR hS
                refine lv_iload hx hb dX11_rates_149 (lv_at hl 0 rfl) ?_
                refine lv_iload hx hb dX11_rates_151 (lv_at hl 1 rfl) ?_
                obtain ⟨v_2, ev_2, hf⟩ := x_bd hf
                refine x_cVi4 C hR hS (S_X11_nextWeekEdge  ev_2) (x_k hR 0 rfl) (by decide) rfl mf_X11_nextWeekEdge tw_1505 (Nat.le_of_ble_eq_true rfl) (Nat.le_of_ble_eq_true rfl) hl.1 (Nat.le_of_ble_eq_true rfl) dX11_rates_153 ⟨Nat.le_of_ble_eq_true rfl, Nat.le_of_ble_eq_true rfl⟩ (fun H locs hR hS => ?_)
                cases hf
                exact xx_iret C hR hS (Nat.le_of_ble_eq_true rfl) (Nat.le_of_ble_eq_true rfl) dX11_rates_156
              refine lv_icmp_ne (tgt := 148) hx hb dX11_rates_141 rfl (fun hc => ?_) (fun hc => ?_)
              · try simp only [if_neg hc] at kM1
                refine lv_iconst (v := 0) hx hb dX11_rates_148 rfl ?_
                exact kM1 ls _ _ (lv_sub hl [4, 5] rfl) hR hS
              · try simp only [if_pos hc] at kM1
                refine lv_iconst (v := 1) hx hb dX11_rates_144 rfl ?_
                refine lv_goto (tgt := 149) hx hb dX11_rates_145 rfl ?_
                exact kM1 ls _ _ (lv_sub hl [4, 5] rfl) hR hS
            · have hf := x_in hc hf
              exact B_X11_rates_135  C  hst  ls _ _ h  (lv_sub hl [] rfl) hR hS hf
        · have hf := x_in hc hf
          refine lv_iload_n hx hb dX11_rates_107 rfl (lv_at hl 2 rfl) ?_
          refine lv_iconst (v := 1) hx hb dX11_rates_108 rfl ?_
          have kM3 : ∀ (ls : Array Slot) (H : Heap) (locs : List Loc), lv_has ls 7 [] → x_R O K h H → va_S (oA O) s.heap H locs → W p l e (x_rmX 6 95 1 6) s m args below meth c H locs 0 0 (vx_MQ below (x_XQ O K h' (x_rv x_gi r)) (x_XX O K h' (x_rv x_gi r)) args s 1 6 (oA O)) (F0 m 119 ls [.int (if v2 = 1 then v4 else v5)]) := by
            intro ls H locs hl hR hS
            cases hf
            exact xx_iret C hR hS (Nat.le_of_ble_eq_true rfl) (Nat.le_of_ble_eq_true rfl) dX11_rates_119
          refine lv_icmp_ne (tgt := 117) hx hb dX11_rates_109 rfl (fun hc => ?_) (fun hc => ?_)
          · try simp only [if_neg hc] at kM3
            refine lv_iload hx hb dX11_rates_117 (lv_at hl 5 rfl) ?_
            exact kM3 ls _ _ (lv_sub hl [] rfl) hR hS
          · try simp only [if_pos hc] at kM3
            refine lv_iload hx hb dX11_rates_112 (lv_at hl 4 rfl) ?_
            refine lv_goto (tgt := 119) hx hb dX11_rates_114 rfl ?_
            exact kM3 ls _ _ (lv_sub hl [] rfl) hR hS
      · have hf := x_ip hc hf
        refine lv_iload_n hx hb dX11_rates_100 rfl (lv_at hl 3 rfl) ?_
        cases hf
        exact xx_iret C hR hS (Nat.le_of_ble_eq_true rfl) (Nat.le_of_ble_eq_true rfl) dX11_rates_101
    · have hf := x_in hc hf
      refine lv_aload_n hx hb dX11_rates_60 rfl (lv_at hl 0 rfl) ?_
      refine lv_iload hx hb dX11_rates_61 (lv_at hl 6 rfl) ?_
      refine lv_iload_n hx hb dX11_rates_63 rfl (lv_at hl 1 rfl) ?_
      obtain ⟨v_4, ev_4, hf⟩ := x_bd hf
      refine x_cVi2 C hR hS (S_X11_isRate  ev_4) (x_k hR 0 rfl) (by decide) rfl mf_X11_isRate tw_1495 (Nat.le_of_ble_eq_true rfl) (Nat.le_of_ble_eq_true rfl) hl.1 (Nat.le_of_ble_eq_true rfl) dX11_rates_64 ⟨Nat.le_of_ble_eq_true rfl, Nat.le_of_ble_eq_true rfl⟩ (fun H locs hR hS => ?_)
      have kM5 : ∀ (ls : Array Slot) (H : Heap) (locs : List Loc), lv_has ls 7 [(0, .ref (oX O)), (1, .int v1), (2, .int v2), (3, .int (if v_4 = 0 then v3 else (v3 + 1))), (4, .int (if v_4 = 0 then v4 else (if v3 = 0 then v6 else v4))), (5, .int (if v_4 = 0 then v5 else v6)), (6, .int v6)] → x_R O K h H → va_S (oA O) s.heap H locs → W p l e (x_rmX 6 95 1 6) s m args below meth c H locs 0 0 (vx_MQ below (x_XQ O K h' (x_rv x_gi r)) (x_XX O K h' (x_rv x_gi r)) args s 1 6 (oA O)) (F0 m 90 ls []) := by
        intro ls H locs hl hR hS
        refine lv_iinc (k := 6) (v := _ + 1) (lv' := [(6, _), (0, _), (1, _), (2, _), (3, _), (4, _), (5, _)]) hx hb dX11_rates_90 hl rfl (x_inc 1 1 rfl _) (Nat.le_of_ble_eq_true rfl) rfl (fun ls hl => ?_)
        refine lv_goto (tgt := 53) hx hb dX11_rates_93 rfl ?_
        exact ih ls _ _ h _ _ _ _ _ _  (lv_sub hl [1, 2, 3, 4, 5, 6, 0] rfl) hR hS hf
      refine lv_if_eq (tgt := 90) hx hb dX11_rates_67 rfl (fun hc => ?_) (fun hc => ?_)
      · try simp only [if_pos hc] at kM5
        exact kM5 ls _ _ (lv_sub hl [0, 1, 2, 3, 4, 5, 6] rfl) hR hS
      · try simp only [if_neg hc] at kM5
        refine lv_iload_n hx hb dX11_rates_70 rfl (lv_at hl 3 rfl) ?_
        refine lv_if_ne (tgt := 79) hx hb dX11_rates_71 rfl (fun hc => ?_) (fun hc => ?_)
        · try simp only [if_neg hc] at kM5
          refine lv_iload hx hb dX11_rates_79 (lv_at hl 4 rfl) ?_
          refine lv_istore (lv' := [(4, _), (0, _), (1, _), (2, _), (3, _), (5, _), (6, _)]) hx hb dX11_rates_81 hl (Nat.le_of_ble_eq_true rfl) rfl (fun ls hl => ?_)
          refine lv_iload hx hb dX11_rates_83 (lv_at hl 6 rfl) ?_
          refine lv_istore (lv' := [(5, _), (4, _), (0, _), (1, _), (2, _), (3, _), (6, _)]) hx hb dX11_rates_85 hl (Nat.le_of_ble_eq_true rfl) rfl (fun ls hl => ?_)
          refine lv_iinc (k := 5) (v := _ + 1) (lv' := [(3, _), (5, _), (4, _), (0, _), (1, _), (2, _), (6, _)]) hx hb dX11_rates_87 hl rfl (x_inc 1 1 rfl _) (Nat.le_of_ble_eq_true rfl) rfl (fun ls hl => ?_)
          exact kM5 ls _ _ (lv_sub hl [3, 4, 5, 0, 2, 1, 6] rfl) hR hS
        · try simp only [if_pos hc] at kM5
          refine lv_iload hx hb dX11_rates_74 (lv_at hl 6 rfl) ?_
          refine lv_goto (tgt := 81) hx hb dX11_rates_76 rfl ?_
          refine lv_istore (lv' := [(4, _), (0, _), (1, _), (2, _), (3, _), (5, _), (6, _)]) hx hb dX11_rates_81 hl (Nat.le_of_ble_eq_true rfl) rfl (fun ls hl => ?_)
          refine lv_iload hx hb dX11_rates_83 (lv_at hl 6 rfl) ?_
          refine lv_istore (lv' := [(5, _), (4, _), (0, _), (1, _), (2, _), (3, _), (6, _)]) hx hb dX11_rates_85 hl (Nat.le_of_ble_eq_true rfl) rfl (fun ls hl => ?_)
          refine lv_iinc (k := 5) (v := _ + 1) (lv' := [(3, _), (5, _), (4, _), (0, _), (1, _), (2, _), (6, _)]) hx hb dX11_rates_87 hl rfl (x_inc 1 1 rfl _) (Nat.le_of_ble_eq_true rfl) rfl (fun ls hl => ?_)
          exact kM5 ls _ _ (lv_sub hl [3, 4, 5, 0, 2, 1, 6] rfl) hR hS
set_option maxRecDepth 20000 in
theorem S_X11_rates {l : Launch} {O : XO} {K : XK} {h : XH} {v1 : Int32} {v2 : Int32}  {r : Nat ⊕ Int32} {h' : XH} (hst : l.stackTraces = false) (hf : f_X11_rates (oX O) h v1 v2 = some (r, h')) : x_MX l O K yX11_rates cX11_rates 7 (some .int) 6 95 1 6 h [.ref (oX O), .int v1, .int v2] (x_rv x_gi r) h' := by
  refine x_enterX (by decide) (Nat.le_of_ble_eq_true rfl) (fun p e s m args below meth c C hR ls hl => ?_)
  have hS : va_S (oA O) s.heap s.heap [] := va_S.rf
  have hx := C.1
  have hb := C.2.1
  have hl : lv_has ls 7 [(0, .ref (oX O)), (1, .int v1), (2, .int v2)] := hl
  rw [f_X11_rates] at hf
  refine lv_iload_n hx hb dX11_rates_0 rfl (lv_at hl 1 rfl) ?_
  refine lv_if_lt (tgt := 11) hx hb dX11_rates_1 rfl (fun hc => ?_) (fun hc => ?_)
  · have hf := x_ip hc hf
    exact B_X11_rates_11  C  hst  ls _ _ h  (lv_sub hl [] rfl) hR hS hf
  · have hf := x_in hc hf
    refine lv_iload_n hx hb dX11_rates_4 rfl (lv_at hl 1 rfl) ?_
    refine lv_sipush (v := 9999) hx hb dX11_rates_5 rfl ?_
    refine lv_icmp_le (tgt := 22) hx hb dX11_rates_8 rfl (fun hc => ?_) (fun hc => ?_)
    · have hf := x_ip hc hf
      refine lv_iload_n hx hb dX11_rates_22 rfl (lv_at hl 2 rfl) ?_
      refine lv_if_lt (tgt := 31) hx hb dX11_rates_23 rfl (fun hc => ?_) (fun hc => ?_)
      · have hf := x_ip hc hf
        exact B_X11_rates_31  C  hst  ls _ _ h  (lv_sub hl [] rfl) hR hS hf
      · have hf := x_in hc hf
        refine lv_iload_n hx hb dX11_rates_26 rfl (lv_at hl 2 rfl) ?_
        refine lv_iconst (v := 4) hx hb dX11_rates_27 rfl ?_
        refine lv_icmp_le (tgt := 42) hx hb dX11_rates_28 rfl (fun hc => ?_) (fun hc => ?_)
        · have hf := x_ip hc hf
          refine lv_iconst (v := 0) hx hb dX11_rates_42 rfl ?_
          refine lv_istore_n (lv' := [(3, _), (0, _), (1, _), (2, _)]) hx hb dX11_rates_43 rfl hl (Nat.le_of_ble_eq_true rfl) rfl (fun ls hl => ?_)
          refine lv_iconst (v := (-1)) hx hb dX11_rates_44 rfl ?_
          refine lv_istore (lv' := [(4, _), (3, _), (0, _), (1, _), (2, _)]) hx hb dX11_rates_45 hl (Nat.le_of_ble_eq_true rfl) rfl (fun ls hl => ?_)
          refine lv_iconst (v := (-1)) hx hb dX11_rates_47 rfl ?_
          refine lv_istore (lv' := [(5, _), (4, _), (3, _), (0, _), (1, _), (2, _)]) hx hb dX11_rates_48 hl (Nat.le_of_ble_eq_true rfl) rfl (fun ls hl => ?_)
          refine lv_iconst (v := 0) hx hb dX11_rates_50 rfl ?_
          refine lv_istore (lv' := [(6, _), (5, _), (4, _), (3, _), (0, _), (1, _), (2, _)]) hx hb dX11_rates_51 hl (Nat.le_of_ble_eq_true rfl) rfl (fun ls hl => ?_)
          exact B_X11_rates_53  C  hst x_FU ls _ _ h _ _ _ _ _ _  (lv_sub hl [4, 5, 6, 3, 2, 1, 0] rfl) hR hS hf
        · have hf := x_in hc hf
          exact B_X11_rates_31  C  hst  ls _ _ h  (lv_sub hl [] rfl) hR hS hf
    · have hf := x_in hc hf
      exact B_X11_rates_11  C  hst  ls _ _ h  (lv_sub hl [] rfl) hR hS hf
def f_X11_change (K : XK) (x : Nat) (h : XH) (v1 : Int32) : Option ((Nat ⊕ Int32) × XH) := x_xb (f_X11_checkLaw x h v1) (fun _ h1 => if x_b v1 3 = true then Option.bind (f_X0_bestPair K x h1 (h1.2.2 (x + 14) v1.toNatClampNeg)) (fun q3 => some (.inr q3.1, q3.2)) else none)
set_option maxRecDepth 20000 in
theorem S_X11_change {l : Launch} {O : XO} {K : XK} {h : XH} {v1 : Int32}  {r : Nat ⊕ Int32} {h' : XH} (hst : l.stackTraces = false) (hf : f_X11_change K (oX O) h v1 = some (r, h')) : x_MX l O K yX11_change cX11_change 2 (some .int) 7 154 1 6 h [.ref (oX O), .int v1] (x_rv x_gi r) h' := by
  refine x_enterX (by decide) (Nat.le_of_ble_eq_true rfl) (fun p e s m args below meth c C hR ls hl => ?_)
  have hS : va_S (oA O) s.heap s.heap [] := va_S.rf
  have hx := C.1
  have hb := C.2.1
  have hl : lv_has ls 2 [(0, .ref (oX O)), (1, .int v1)] := hl
  rw [f_X11_change] at hf
  refine lv_aload_n hx hb dX11_change_0 rfl (lv_at hl 0 rfl) ?_
  refine lv_iload_n hx hb dX11_change_1 rfl (lv_at hl 1 rfl) ?_
  obtain ⟨s1_, h1, eh1, ht1, hf⟩ := x_xbd hf
  refine x_xVv1 C hR hS (S_X11_checkLaw hst eh1) (x_k hR 0 rfl) (by decide) rfl mf_X11_checkLaw tw_1102 (Nat.le_of_ble_eq_true rfl) (Nat.le_of_ble_eq_true rfl) hl.1 (Nat.le_of_ble_eq_true rfl) dX11_change_2 ⟨Nat.le_of_ble_eq_true rfl, Nat.le_of_ble_eq_true rfl⟩ (x_thx ht1) (Nat.le_of_ble_eq_true rfl) (Nat.le_of_ble_eq_true rfl) (fun hs1 H locs hR hS => ?_)
  have hf := hf () hs1
  refine lv_aload_n hx hb dX11_change_5 rfl (lv_at hl 0 rfl) ?_
  refine gf_11_7 C hR (x_k hR 0 rfl) tw_502 dX11_change_6 ?_
  refine lv_aload_n hx hb dX11_change_9 rfl (lv_at hl 0 rfl) ?_
  refine gf_11_1 C hR (x_k hR 0 rfl) tw_496 dX11_change_10 ?_
  refine gf_7_9 C hR (x_k hR 9 rfl) tw_316 dX11_change_13 ?_
  refine lv_iload_n hx hb dX11_change_16 rfl (lv_at hl 1 rfl) ?_
  obtain ⟨g2, hf⟩ := x_gd hf
  refine x_taald C hR (x_k1 (x_k hR 14 rfl)) (x_k2 (x_k hR 14 rfl) g2) dX11_change_17 ?_
  obtain ⟨q3, eq3, hf⟩ := x_bd hf
  refine x_cVi1 C hR hS (S_X0_bestPair (x_kT hR (x_k hR 14 rfl)) eq3) (x_k hR 59 rfl) (by decide) rfl mf_X0_bestPair tw_1517 (Nat.le_of_ble_eq_true rfl) (Nat.le_of_ble_eq_true rfl) hl.1 (Nat.le_of_ble_eq_true rfl) dX11_change_18 ⟨Nat.le_of_ble_eq_true rfl, Nat.le_of_ble_eq_true rfl⟩ (fun H locs hR hS => ?_)
  cases hf
  exact xx_iret C hR hS (Nat.le_of_ble_eq_true rfl) (Nat.le_of_ble_eq_true rfl) dX11_change_21
def f_X11_oddsOfWhole_30 (k18 : Int32 → Int32 → Int64 → Int32 → Option Int64) (x : Nat) (h : XH) : Nat → Int32 → Int32 → Int64 → Int32 → Int64 → Int32 → Option Int64
  | 0, _, _, _, _, _, _ => none
  | n + 1, v1, v3, v4, v6, v7, v9 => if 6 ≤ v9 then Option.bind (f_X11_waysToChoose h v1 v6) (fun v_3 => k18 v1 v3 (v4 + (v7 * v_3)) (v6 + 1)) else x_let ((v7 * (if v6 ≤ v9 then (if v1 ≤ v9 then 100 else (100 - v3).toInt64) else v3.toInt64)) : Int64) (fun t5 => f_X11_oddsOfWhole_30 k18 x h n v1 v3 v4 v6 t5 (v9 + 1))
def f_X11_oddsOfWhole_18 (x : Nat) (h : XH) : Nat → Int32 → Int32 → Int64 → Int32 → Option Int64
  | 0, _, _, _, _ => none
  | n + 1, v1, v3, v4, v6 => if v1 < v6 then some v4 else f_X11_oddsOfWhole_30 (f_X11_oddsOfWhole_18 x h n) x h x_FU v1 v3 v4 v6 1 0
def f_X11_oddsOfWhole (x : Nat) (h : XH) (v1 : Int32) (v2 : Int32) : Option Int64 := if x_b (v1 - 1) 6 = true then x_let ((h.1 (x + 17) (v1 - 1).toNatClampNeg) : Int32) (fun t2 => f_X11_oddsOfWhole_18 x h x_FU v1 t2 0 v2) else none
set_option maxRecDepth 20000 in
theorem B_X11_oddsOfWhole_30 {p : Program} {l : Launch} {e : Env} {s : State} {m : MethodId} {args : Array Value} {below : List Frame} {meth : Method} {c : Code} {O : XO} {K : XK} {h : XH} {r : Int64}  {k18 : Int32 → Int32 → Int64 → Int32 → Option Int64} (C : x_C p s m args meth c O cX11_oddsOfWhole 10 RX11 (some .long)) (hk18 : ∀ (ls : Array Slot) (H : Heap) (locs : List Loc) (v1 : Int32) (v3 : Int32) (v4 : Int64) (v6 : Int32), lv_has ls 10 [(1, .int v1), (3, .int v3), (4, .long v4), (6, .int v6)] → x_R O K h H → va_S (oA O) s.heap H locs → k18 v1 v3 v4 v6 = some r → W p l e (x_rm 1 24) s m args below meth c H locs 0 0 (MQ below (x_Qc O K h (some (.long r))) args s 0 0 (oA O)) (F0 m 18 ls []))  : ∀ (n : Nat) (ls : Array Slot) (H : Heap) (locs : List Loc) (v1 : Int32) (v3 : Int32) (v4 : Int64) (v6 : Int32) (v7 : Int64) (v9 : Int32) (hl : lv_has ls 10 [(1, .int v1), (3, .int v3), (4, .long v4), (6, .int v6), (7, .long v7), (9, .int v9)]) (hR : x_R O K h H) (hS : va_S (oA O) s.heap H locs) (hf : f_X11_oddsOfWhole_30 k18 (oX O) h n v1 v3 v4 v6 v7 v9 = some r), W p l e (x_rm 1 24) s m args below meth c H locs 0 0 (MQ below (x_Qc O K h (some (.long r))) args s 0 0 (oA O)) (F0 m 30 ls []) := by
  have hx := C.1
  have hb := C.2.1
  intro n
  induction n with
  | zero =>
    intro ls H locs v1 v3 v4 v6 v7 v9 hl hR hS hf
    rw [f_X11_oddsOfWhole_30] at hf
    cases hf
  | succ n ih =>
    intro ls H locs v1 v3 v4 v6 v7 v9 hl hR hS hf
    rw [f_X11_oddsOfWhole_30] at hf
    refine lv_iload hx hb dX11_oddsOfWhole_30 (lv_at hl 5 rfl) ?_
    refine lv_bipush (v := 6) hx hb dX11_oddsOfWhole_32 rfl ?_
    refine lv_icmp_ge (tgt := 77) hx hb dX11_oddsOfWhole_34 rfl (fun hc => ?_) (fun hc => ?_)
    · have hf := x_ip hc hf
      refine lv_lload hx hb dX11_oddsOfWhole_77 (lv_at hl 2 rfl) ?_
      refine lv_lload hx hb dX11_oddsOfWhole_79 (lv_at hl 4 rfl) ?_
      refine lv_iload_n hx hb dX11_oddsOfWhole_81 rfl (lv_at hl 0 rfl) ?_
      refine lv_iload hx hb dX11_oddsOfWhole_82 (lv_at hl 3 rfl) ?_
      obtain ⟨v_3, ev_3, hf⟩ := x_bd hf
      refine x_cSl2 C hR hS (S_X11_waysToChoose  ev_3) mf_X11_waysToChoose tw_1474 (Nat.le_of_ble_eq_true rfl) (Nat.le_of_ble_eq_true rfl) hl.1 (Nat.le_of_ble_eq_true rfl) dX11_oddsOfWhole_84 ⟨Nat.le_refl _, Nat.le_refl _⟩ (fun H locs hR hS => ?_)
      refine lv_lmul hx hb dX11_oddsOfWhole_87 ?_
      refine lv_ladd hx hb dX11_oddsOfWhole_88 ?_
      refine lv_lstore (lv' := [(4, _), (1, _), (3, _), (6, _), (7, _), (9, _)]) hx hb dX11_oddsOfWhole_89 hl (Nat.le_of_ble_eq_true rfl) rfl (fun ls hl => ?_)
      refine lv_iinc (k := 3) (v := _ + 1) (lv' := [(6, _), (4, _), (1, _), (3, _), (7, _), (9, _)]) hx hb dX11_oddsOfWhole_91 hl rfl (x_inc 1 1 rfl _) (Nat.le_of_ble_eq_true rfl) rfl (fun ls hl => ?_)
      refine lv_goto (tgt := 18) hx hb dX11_oddsOfWhole_94 rfl ?_
      exact hk18 ls _ _ _ _ _ _  (lv_sub hl [2, 3, 1, 0] rfl) hR hS hf
    · have hf := x_in hc hf
      refine lv_lload hx hb dX11_oddsOfWhole_37 (lv_at hl 4 rfl) ?_
      refine lv_iload hx hb dX11_oddsOfWhole_39 (lv_at hl 5 rfl) ?_
      refine lv_iload hx hb dX11_oddsOfWhole_41 (lv_at hl 3 rfl) ?_
      have kM4 : ∀ (ls : Array Slot) (H : Heap) (locs : List Loc), lv_has ls 10 [(1, .int v1), (3, .int v3), (4, .long v4), (6, .int v6), (9, .int v9)] → x_R O K h H → va_S (oA O) s.heap H locs → W p l e (x_rm 1 24) s m args below meth c H locs 0 0 (MQ below (x_Qc O K h (some (.long r))) args s 0 0 (oA O)) (F0 m 68 ls [.long (if v6 ≤ v9 then (if v1 ≤ v9 then 100 else (100 - v3).toInt64) else v3.toInt64), .long v7]) := by
        intro ls H locs hl hR hS
        refine lv_lmul hx hb dX11_oddsOfWhole_68 ?_
        obtain ⟨t5, et5, hf⟩ := x_lt hf
        refine x_nml et5 ?_
        refine lv_lstore (lv' := [(7, _), (1, _), (3, _), (4, _), (6, _), (9, _)]) hx hb dX11_oddsOfWhole_69 hl (Nat.le_of_ble_eq_true rfl) rfl (fun ls hl => ?_)
        refine lv_iinc (k := 5) (v := _ + 1) (lv' := [(9, _), (7, _), (1, _), (3, _), (4, _), (6, _)]) hx hb dX11_oddsOfWhole_71 hl rfl (x_inc 1 1 rfl _) (Nat.le_of_ble_eq_true rfl) rfl (fun ls hl => ?_)
        refine lv_goto (tgt := 30) hx hb dX11_oddsOfWhole_74 rfl ?_
        exact ih ls _ _ _ _ _ _ _ _  (lv_sub hl [2, 3, 4, 5, 1, 0] rfl) hR hS hf
      refine lv_icmp_ge (tgt := 51) hx hb dX11_oddsOfWhole_43 rfl (fun hc => ?_) (fun hc => ?_)
      · try simp only [if_pos hc] at kM4
        refine lv_iload hx hb dX11_oddsOfWhole_51 (lv_at hl 5 rfl) ?_
        refine lv_iload_n hx hb dX11_oddsOfWhole_53 rfl (lv_at hl 0 rfl) ?_
        refine lv_icmp_ge (tgt := 65) hx hb dX11_oddsOfWhole_54 rfl (fun hc => ?_) (fun hc => ?_)
        · try simp only [if_pos hc] at kM4
          refine lv_ldc2 hx hb C.2.2.2.1 (C.2.2.2.2.1 _ tw_1243) dX11_oddsOfWhole_65 ?_
          exact kM4 ls _ _ (lv_sub hl [0, 1, 2, 3, 5] rfl) hR hS
        · try simp only [if_neg hc] at kM4
          refine lv_bipush (v := 100) hx hb dX11_oddsOfWhole_57 rfl ?_
          refine lv_iload_n hx hb dX11_oddsOfWhole_59 rfl (lv_at hl 1 rfl) ?_
          refine lv_isub hx hb dX11_oddsOfWhole_60 ?_
          refine lv_i2l hx hb dX11_oddsOfWhole_61 rfl ?_
          refine lv_goto (tgt := 68) hx hb dX11_oddsOfWhole_62 rfl ?_
          exact kM4 ls _ _ (lv_sub hl [0, 1, 2, 3, 5] rfl) hR hS
      · try simp only [if_neg hc] at kM4
        refine lv_iload_n hx hb dX11_oddsOfWhole_46 rfl (lv_at hl 1 rfl) ?_
        refine lv_i2l hx hb dX11_oddsOfWhole_47 rfl ?_
        refine lv_goto (tgt := 68) hx hb dX11_oddsOfWhole_48 rfl ?_
        exact kM4 ls _ _ (lv_sub hl [0, 1, 2, 3, 5] rfl) hR hS
set_option maxRecDepth 20000 in
theorem B_X11_oddsOfWhole_18 {p : Program} {l : Launch} {e : Env} {s : State} {m : MethodId} {args : Array Value} {below : List Frame} {meth : Method} {c : Code} {O : XO} {K : XK} {h : XH} {r : Int64}   (C : x_C p s m args meth c O cX11_oddsOfWhole 10 RX11 (some .long))   : ∀ (n : Nat) (ls : Array Slot) (H : Heap) (locs : List Loc) (v1 : Int32) (v3 : Int32) (v4 : Int64) (v6 : Int32) (hl : lv_has ls 10 [(1, .int v1), (3, .int v3), (4, .long v4), (6, .int v6)]) (hR : x_R O K h H) (hS : va_S (oA O) s.heap H locs) (hf : f_X11_oddsOfWhole_18 (oX O) h n v1 v3 v4 v6 = some r), W p l e (x_rm 1 24) s m args below meth c H locs 0 0 (MQ below (x_Qc O K h (some (.long r))) args s 0 0 (oA O)) (F0 m 18 ls []) := by
  have hx := C.1
  have hb := C.2.1
  intro n
  induction n with
  | zero =>
    intro ls H locs v1 v3 v4 v6 hl hR hS hf
    rw [f_X11_oddsOfWhole_18] at hf
    cases hf
  | succ n ih =>
    intro ls H locs v1 v3 v4 v6 hl hR hS hf
    rw [f_X11_oddsOfWhole_18] at hf
    refine lv_iload hx hb dX11_oddsOfWhole_18 (lv_at hl 3 rfl) ?_
    refine lv_iload_n hx hb dX11_oddsOfWhole_20 rfl (lv_at hl 0 rfl) ?_
    refine lv_icmp_gt (tgt := 97) hx hb dX11_oddsOfWhole_21 rfl (fun hc => ?_) (fun hc => ?_)
    · have hf := x_ip hc hf
      refine lv_lload hx hb dX11_oddsOfWhole_97 (lv_at hl 2 rfl) ?_
      cases hf
      exact x_lret C hR hS dX11_oddsOfWhole_99
    · have hf := x_in hc hf
      refine lv_lconst (v := 1) hx hb dX11_oddsOfWhole_24 rfl ?_
      refine lv_lstore (lv' := [(7, _), (1, _), (3, _), (4, _), (6, _)]) hx hb dX11_oddsOfWhole_25 hl (Nat.le_of_ble_eq_true rfl) rfl (fun ls hl => ?_)
      refine lv_iconst (v := 0) hx hb dX11_oddsOfWhole_27 rfl ?_
      refine lv_istore (lv' := [(9, _), (7, _), (1, _), (3, _), (4, _), (6, _)]) hx hb dX11_oddsOfWhole_28 hl (Nat.le_of_ble_eq_true rfl) rfl (fun ls hl => ?_)
      exact B_X11_oddsOfWhole_30  C ih x_FU ls _ _ _ _ _ _ _ _  (lv_sub hl [2, 3, 4, 5, 1, 0] rfl) hR hS hf
set_option maxRecDepth 20000 in
theorem S_X11_oddsOfWhole {l : Launch} {O : XO} {K : XK} {h : XH} {v1 : Int32} {v2 : Int32}  {r : Int64}  (hf : f_X11_oddsOfWhole (oX O) h v1 v2 = some r) : x_M l O K yX11_oddsOfWhole cX11_oddsOfWhole 10 (some .long) 1 24 h [.ref (oX O), .int v1, .int v2] (some (.long r)) h := by
  refine x_enter (by decide) (Nat.le_of_ble_eq_true rfl) (fun p e s m args below meth c C hR ls hl => ?_)
  have hS : va_S (oA O) s.heap s.heap [] := va_S.rf
  have hx := C.1
  have hb := C.2.1
  have hl : lv_has ls 10 [(0, .ref (oX O)), (1, .int v1), (2, .int v2)] := hl
  rw [f_X11_oddsOfWhole] at hf
  refine lv_aload_n hx hb dX11_oddsOfWhole_0 rfl (lv_at hl 0 rfl) ?_
  refine gf_11_1 C hR (x_k hR 0 rfl) tw_496 dX11_oddsOfWhole_1 ?_
  refine gf_7_14 C hR (x_k hR 9 rfl) tw_328 dX11_oddsOfWhole_4 ?_
  refine lv_iload_n hx hb dX11_oddsOfWhole_7 rfl (lv_at hl 1 rfl) ?_
  refine lv_iconst (v := 1) hx hb dX11_oddsOfWhole_8 rfl ?_
  refine lv_isub hx hb dX11_oddsOfWhole_9 ?_
  obtain ⟨g1, hf⟩ := x_gd hf
  refine x_iald C hR (x_k1 (x_k hR 17 rfl)) (x_k2 (x_k hR 17 rfl) g1) dX11_oddsOfWhole_10 ?_
  obtain ⟨t2, et2, hf⟩ := x_lt hf
  refine x_nmi et2 ?_
  refine lv_istore_n (lv' := [(3, _), (0, _), (1, _), (2, _)]) hx hb dX11_oddsOfWhole_11 rfl hl (Nat.le_of_ble_eq_true rfl) rfl (fun ls hl => ?_)
  refine lv_lconst (v := 0) hx hb dX11_oddsOfWhole_12 rfl ?_
  refine lv_lstore (lv' := [(4, _), (3, _), (0, _), (1, _), (2, _)]) hx hb dX11_oddsOfWhole_13 hl (Nat.le_of_ble_eq_true rfl) rfl (fun ls hl => ?_)
  refine lv_iload_n hx hb dX11_oddsOfWhole_15 rfl (lv_at hl 4 rfl) ?_
  refine lv_istore (lv' := [(6, _), (4, _), (3, _), (0, _), (1, _), (2, _)]) hx hb dX11_oddsOfWhole_16 hl (Nat.le_of_ble_eq_true rfl) rfl (fun ls hl => ?_)
  exact B_X11_oddsOfWhole_18  C  x_FU ls _ _ _ _ _ _  (lv_sub hl [4, 2, 1, 0] rfl) hR hS hf
def f_X11_risk_10 (x : Nat) (h : XH) : Option ((Nat ⊕ Int64) × XH) := some (.inl 1, h)
def f_X11_risk_34 (x : Nat) : Nat → XH → Int32 → Int32 → Int32 → Int64 → Int32 → Option ((Nat ⊕ Int64) × XH)
  | 0, _, _, _, _, _, _ => none
  | n + 1, h, v1, v2, v3, v4, v6 => if 6 < v6 then some (.inr (if v2 = 0 then v3.toInt64 else v4), h) else Option.bind (f_X11_oddsOfWhole x h v6 v1) (fun v_3 => f_X11_risk_34 x n h v1 v2 (if (lg_cmp v_3 v4) ≤ 0 then v3 else v6) (if (lg_cmp v_3 v4) ≤ 0 then v4 else v_3) (v6 + 1))
def f_X11_risk (x : Nat) (h : XH) (v1 : Int32) (v2 : Int32) : Option ((Nat ⊕ Int64) × XH) := if v1 < 0 then f_X11_risk_10 x h else if v1 ≤ 6 then Option.bind (f_X11_oddsOfWhole x h 1 v1) (fun v_1 => f_X11_risk_34 x x_FU h v1 v2 1 v_1 2) else f_X11_risk_10 x h
set_option maxRecDepth 20000 in
theorem B_X11_risk_10 {p : Program} {l : Launch} {e : Env} {s : State} {m : MethodId} {args : Array Value} {below : List Frame} {meth : Method} {c : Code} {O : XO} {K : XK} {r : Nat ⊕ Int64} {h' : XH}   (C : x_C p s m args meth c O cX11_risk 9 RX11 (some .long))   (hst : l.stackTraces = false) (ls : Array Slot) (H : Heap) (locs : List Loc) (h : XH) (hl : lv_has ls 9 []) (hR : x_R O K h H) (hS : va_S (oA O) s.heap H locs) (hf : f_X11_risk_10 (oX O) h = some (r, h')) : W p l e (x_rmX 6 90 1 6) s m args below meth c H locs 0 0 (vx_MQ below (x_XQ O K h' (x_rv x_gl r)) (x_XX O K h' (x_rv x_gl r)) args s 1 6 (oA O)) (F0 m 10 ls []) := by
  have hx := C.1
  have hb := C.2.1
  rw [f_X11_risk_10] at hf
  cases hf
  exact x_thrW tf_1 C hR hS hst hl.1 (xs_45 C) dX11_risk_10 dX11_risk_13 dX11_risk_14 dX11_risk_17 dX11_risk_20 (Nat.le_of_ble_eq_true rfl) (by decide) (Nat.le_of_ble_eq_true rfl) (Nat.le_of_ble_eq_true rfl) (Nat.le_of_ble_eq_true rfl) (Nat.le_of_ble_eq_true rfl)
set_option maxRecDepth 20000 in
theorem B_X11_risk_34 {p : Program} {l : Launch} {e : Env} {s : State} {m : MethodId} {args : Array Value} {below : List Frame} {meth : Method} {c : Code} {O : XO} {K : XK} {r : Nat ⊕ Int64} {h' : XH}   (C : x_C p s m args meth c O cX11_risk 9 RX11 (some .long))   (hst : l.stackTraces = false) : ∀ (n : Nat) (ls : Array Slot) (H : Heap) (locs : List Loc) (h : XH) (v1 : Int32) (v2 : Int32) (v3 : Int32) (v4 : Int64) (v6 : Int32) (hl : lv_has ls 9 [(0, .ref (oX O)), (1, .int v1), (2, .int v2), (3, .int v3), (4, .long v4), (6, .int v6)]) (hR : x_R O K h H) (hS : va_S (oA O) s.heap H locs) (hf : f_X11_risk_34 (oX O) n h v1 v2 v3 v4 v6 = some (r, h')), W p l e (x_rmX 6 90 1 6) s m args below meth c H locs 0 0 (vx_MQ below (x_XQ O K h' (x_rv x_gl r)) (x_XX O K h' (x_rv x_gl r)) args s 1 6 (oA O)) (F0 m 34 ls []) := by
  have hx := C.1
  have hb := C.2.1
  intro n
  induction n with
  | zero =>
    intro ls H locs h v1 v2 v3 v4 v6 hl hR hS hf
    rw [f_X11_risk_34] at hf
    cases hf
  | succ n ih =>
    intro ls H locs h v1 v2 v3 v4 v6 hl hR hS hf
    rw [f_X11_risk_34] at hf
    refine lv_iload hx hb dX11_risk_34 (lv_at hl 5 rfl) ?_
    refine lv_bipush (v := 6) hx hb dX11_risk_36 rfl ?_
    refine lv_icmp_gt (tgt := 71) hx hb dX11_risk_38 rfl (fun hc => ?_) (fun hc => ?_)
    · have hf := x_ip hc hf
      refine lv_iload_n hx hb dX11_risk_71 rfl (lv_at hl 2 rfl) ?_
      have kM2 : ∀ (ls : Array Slot) (H : Heap) (locs : List Loc), lv_has ls 9 [] → x_R O K h H → va_S (oA O) s.heap H locs → W p l e (x_rmX 6 90 1 6) s m args below meth c H locs 0 0 (vx_MQ below (x_XQ O K h' (x_rv x_gl r)) (x_XX O K h' (x_rv x_gl r)) args s 1 6 (oA O)) (F0 m 82 ls [.long (if v2 = 0 then v3.toInt64 else v4)]) := by
        intro ls H locs hl hR hS
        cases hf
        exact xx_lret C hR hS (Nat.le_of_ble_eq_true rfl) (Nat.le_of_ble_eq_true rfl) dX11_risk_82
      refine lv_if_eq (tgt := 80) hx hb dX11_risk_72 rfl (fun hc => ?_) (fun hc => ?_)
      · try simp only [if_pos hc] at kM2
        refine lv_iload_n hx hb dX11_risk_80 rfl (lv_at hl 3 rfl) ?_
        refine lv_i2l hx hb dX11_risk_81 rfl ?_
        exact kM2 ls _ _ (lv_sub hl [] rfl) hR hS
      · try simp only [if_neg hc] at kM2
        refine lv_lload hx hb dX11_risk_75 (lv_at hl 4 rfl) ?_
        refine lv_goto (tgt := 82) hx hb dX11_risk_77 rfl ?_
        exact kM2 ls _ _ (lv_sub hl [] rfl) hR hS
    · have hf := x_in hc hf
      refine lv_aload_n hx hb dX11_risk_41 rfl (lv_at hl 0 rfl) ?_
      refine lv_iload hx hb dX11_risk_42 (lv_at hl 5 rfl) ?_
      refine lv_iload_n hx hb dX11_risk_44 rfl (lv_at hl 1 rfl) ?_
      obtain ⟨v_3, ev_3, hf⟩ := x_bd hf
      refine x_cVl2 C hR hS (S_X11_oddsOfWhole  ev_3) (x_k hR 0 rfl) (by decide) rfl mf_X11_oddsOfWhole tw_1470 (Nat.le_of_ble_eq_true rfl) (Nat.le_of_ble_eq_true rfl) hl.1 (Nat.le_of_ble_eq_true rfl) dX11_risk_45 ⟨Nat.le_of_ble_eq_true rfl, Nat.le_of_ble_eq_true rfl⟩ (fun H locs hR hS => ?_)
      refine lv_lstore (lv' := [(7, _), (0, _), (1, _), (2, _), (3, _), (4, _), (6, _)]) hx hb dX11_risk_48 hl (Nat.le_of_ble_eq_true rfl) rfl (fun ls hl => ?_)
      refine lv_lload hx hb dX11_risk_50 (lv_at hl 0 rfl) ?_
      refine lv_lload hx hb dX11_risk_52 (lv_at hl 5 rfl) ?_
      refine W.lcmp hx hb dX11_risk_54 ?_
      have kM4 : ∀ (ls : Array Slot) (H : Heap) (locs : List Loc), lv_has ls 9 [(0, .ref (oX O)), (1, .int v1), (2, .int v2), (3, .int (if (lg_cmp v_3 v4) ≤ 0 then v3 else v6)), (4, .long (if (lg_cmp v_3 v4) ≤ 0 then v4 else v_3)), (6, .int v6)] → x_R O K h H → va_S (oA O) s.heap H locs → W p l e (x_rmX 6 90 1 6) s m args below meth c H locs 0 0 (vx_MQ below (x_XQ O K h' (x_rv x_gl r)) (x_XX O K h' (x_rv x_gl r)) args s 1 6 (oA O)) (F0 m 65 ls []) := by
        intro ls H locs hl hR hS
        refine lv_iinc (k := 5) (v := _ + 1) (lv' := [(6, _), (0, _), (1, _), (2, _), (3, _), (4, _)]) hx hb dX11_risk_65 hl rfl (x_inc 1 1 rfl _) (Nat.le_of_ble_eq_true rfl) rfl (fun ls hl => ?_)
        refine lv_goto (tgt := 34) hx hb dX11_risk_68 rfl ?_
        exact ih ls _ _ h _ _ _ _ _  (lv_sub hl [1, 2, 3, 4, 5, 0] rfl) hR hS hf
      refine lv_if_le (tgt := 65) hx hb dX11_risk_55 rfl (fun hc => ?_) (fun hc => ?_)
      · try simp only [if_pos hc] at kM4
        exact kM4 ls _ _ (lv_sub hl [1, 2, 3, 4, 5, 6] rfl) hR hS
      · try simp only [if_neg hc] at kM4
        refine lv_iload hx hb dX11_risk_58 (lv_at hl 6 rfl) ?_
        refine lv_istore_n (lv' := [(3, _), (7, _), (0, _), (1, _), (2, _), (4, _), (6, _)]) hx hb dX11_risk_60 rfl hl (Nat.le_of_ble_eq_true rfl) rfl (fun ls hl => ?_)
        refine lv_lload hx hb dX11_risk_61 (lv_at hl 1 rfl) ?_
        refine lv_lstore (lv' := [(4, _), (3, _), (7, _), (0, _), (1, _), (2, _), (6, _)]) hx hb dX11_risk_63 hl (Nat.le_of_ble_eq_true rfl) rfl (fun ls hl => ?_)
        exact kM4 ls _ _ (lv_sub hl [3, 4, 5, 1, 0, 6] rfl) hR hS
set_option maxRecDepth 20000 in
theorem S_X11_risk {l : Launch} {O : XO} {K : XK} {h : XH} {v1 : Int32} {v2 : Int32}  {r : Nat ⊕ Int64} {h' : XH} (hst : l.stackTraces = false) (hf : f_X11_risk (oX O) h v1 v2 = some (r, h')) : x_MX l O K yX11_risk cX11_risk 9 (some .long) 6 90 1 6 h [.ref (oX O), .int v1, .int v2] (x_rv x_gl r) h' := by
  refine x_enterX (by decide) (Nat.le_of_ble_eq_true rfl) (fun p e s m args below meth c C hR ls hl => ?_)
  have hS : va_S (oA O) s.heap s.heap [] := va_S.rf
  have hx := C.1
  have hb := C.2.1
  have hl : lv_has ls 9 [(0, .ref (oX O)), (1, .int v1), (2, .int v2)] := hl
  rw [f_X11_risk] at hf
  refine lv_iload_n hx hb dX11_risk_0 rfl (lv_at hl 1 rfl) ?_
  refine lv_if_lt (tgt := 10) hx hb dX11_risk_1 rfl (fun hc => ?_) (fun hc => ?_)
  · have hf := x_ip hc hf
    exact B_X11_risk_10  C  hst  ls _ _ h  (lv_sub hl [] rfl) hR hS hf
  · have hf := x_in hc hf
    refine lv_iload_n hx hb dX11_risk_4 rfl (lv_at hl 1 rfl) ?_
    refine lv_bipush (v := 6) hx hb dX11_risk_5 rfl ?_
    refine lv_icmp_le (tgt := 21) hx hb dX11_risk_7 rfl (fun hc => ?_) (fun hc => ?_)
    · have hf := x_ip hc hf
      refine lv_iconst (v := 1) hx hb dX11_risk_21 rfl ?_
      refine lv_istore_n (lv' := [(3, _), (0, _), (1, _), (2, _)]) hx hb dX11_risk_22 rfl hl (Nat.le_of_ble_eq_true rfl) rfl (fun ls hl => ?_)
      refine lv_aload_n hx hb dX11_risk_23 rfl (lv_at hl 1 rfl) ?_
      refine lv_iconst (v := 1) hx hb dX11_risk_24 rfl ?_
      refine lv_iload_n hx hb dX11_risk_25 rfl (lv_at hl 2 rfl) ?_
      obtain ⟨v_1, ev_1, hf⟩ := x_bd hf
      refine x_cVl2 C hR hS (S_X11_oddsOfWhole  ev_1) (x_k hR 0 rfl) (by decide) rfl mf_X11_oddsOfWhole tw_1470 (Nat.le_of_ble_eq_true rfl) (Nat.le_of_ble_eq_true rfl) hl.1 (Nat.le_of_ble_eq_true rfl) dX11_risk_26 ⟨Nat.le_of_ble_eq_true rfl, Nat.le_of_ble_eq_true rfl⟩ (fun H locs hR hS => ?_)
      refine lv_lstore (lv' := [(4, _), (3, _), (0, _), (1, _), (2, _)]) hx hb dX11_risk_29 hl (Nat.le_of_ble_eq_true rfl) rfl (fun ls hl => ?_)
      refine lv_iconst (v := 2) hx hb dX11_risk_31 rfl ?_
      refine lv_istore (lv' := [(6, _), (4, _), (3, _), (0, _), (1, _), (2, _)]) hx hb dX11_risk_32 hl (Nat.le_of_ble_eq_true rfl) rfl (fun ls hl => ?_)
      exact B_X11_risk_34  C  hst x_FU ls _ _ h _ _ _ _ _  (lv_sub hl [3, 4, 5, 2, 1, 0] rfl) hR hS hf
    · have hf := x_in hc hf
      exact B_X11_risk_10  C  hst  ls _ _ h  (lv_sub hl [] rfl) hR hS hf
