def f_X12_allWeights_8 (x : Nat) (h : XH) : Nat → Int32 → Int32 → Int32 → Int32 → Option Int32
  | 0, _, _, _, _ => none
  | n + 1, v1, v2, v3, v4 => if 6 ≤ v4 then some v3 else Option.bind (f_X12_weightOf x h v1 v2 v4) (fun v_1 => f_X12_allWeights_8 x h n v1 v2 (v3 + v_1) (v4 + 1))
def f_X12_allWeights (x : Nat) (h : XH) (v1 : Int32) (v2 : Int32) : Option Int32 := f_X12_allWeights_8 x h x_FU v1 v2 (f_X12_weight h 1) 2
set_option maxRecDepth 20000 in
theorem B_X12_allWeights_8 {p : Program} {l : Launch} {e : Env} {s : State} {m : MethodId} {args : Array Value} {below : List Frame} {meth : Method} {c : Code} {O : XO} {K : XK} {h : XH} {r : Int32}   (C : x_C p s m args meth c O cX12_allWeights 5 RX12 (some .int))   : ∀ (n : Nat) (ls : Array Slot) (H : Heap) (locs : List Loc) (v1 : Int32) (v2 : Int32) (v3 : Int32) (v4 : Int32) (hl : lv_has ls 5 [(0, .ref (oX O + 64)), (1, .int v1), (2, .int v2), (3, .int v3), (4, .int v4)]) (hR : x_R O K h H) (hS : va_S (oA O) s.heap H locs) (hf : f_X12_allWeights_8 (oX O) h n v1 v2 v3 v4 = some r), W p l e (x_rm 6 146) s m args below meth c H locs 0 0 (MQ below (x_Qc O K h (some (.int r))) args s 0 0 (oA O)) (F0 m 8 ls []) := by
  have hx := C.1
  have hb := C.2.1
  intro n
  induction n with
  | zero =>
    intro ls H locs v1 v2 v3 v4 hl hR hS hf
    rw [f_X12_allWeights_8] at hf
    cases hf
  | succ n ih =>
    intro ls H locs v1 v2 v3 v4 hl hR hS hf
    rw [f_X12_allWeights_8] at hf
    refine lv_iload hx hb dX12_allWeights_8 (lv_at hl 4 rfl) ?_
    refine lv_bipush (v := 6) hx hb dX12_allWeights_10 rfl ?_
    refine lv_icmp_ge (tgt := 32) hx hb dX12_allWeights_12 rfl (fun hc => ?_) (fun hc => ?_)
    · have hf := x_ip hc hf
      refine lv_iload_n hx hb dX12_allWeights_32 rfl (lv_at hl 3 rfl) ?_
      cases hf
      exact x_iret C hR hS dX12_allWeights_33
    · have hf := x_in hc hf
      refine lv_iload_n hx hb dX12_allWeights_15 rfl (lv_at hl 3 rfl) ?_
      refine lv_aload_n hx hb dX12_allWeights_16 rfl (lv_at hl 0 rfl) ?_
      refine lv_iload_n hx hb dX12_allWeights_17 rfl (lv_at hl 1 rfl) ?_
      refine lv_iload_n hx hb dX12_allWeights_18 rfl (lv_at hl 2 rfl) ?_
      refine lv_iload hx hb dX12_allWeights_19 (lv_at hl 4 rfl) ?_
      obtain ⟨v_1, ev_1, hf⟩ := x_bd hf
      refine x_cVi3 C hR hS (S_X12_weightOf  ev_1) (x_k hR 64 rfl) (by decide) rfl mf_X12_weightOf tw_1955 (Nat.le_of_ble_eq_true rfl) (Nat.le_of_ble_eq_true rfl) hl.1 (Nat.le_of_ble_eq_true rfl) dX12_allWeights_21 ⟨Nat.le_refl _, Nat.le_refl _⟩ (fun H locs hR hS => ?_)
      refine lv_iadd hx hb dX12_allWeights_24 ?_
      refine lv_istore_n (lv' := [(3, _), (0, _), (1, _), (2, _), (4, _)]) hx hb dX12_allWeights_25 rfl hl (Nat.le_of_ble_eq_true rfl) rfl (fun ls hl => ?_)
      refine lv_iinc (k := 4) (v := _ + 1) (lv' := [(4, _), (3, _), (0, _), (1, _), (2, _)]) hx hb dX12_allWeights_26 hl rfl (x_inc 1 1 rfl _) (Nat.le_of_ble_eq_true rfl) rfl (fun ls hl => ?_)
      refine lv_goto (tgt := 8) hx hb dX12_allWeights_29 rfl ?_
      exact ih ls _ _ _ _ _ _  (lv_sub hl [2, 3, 4, 1, 0] rfl) hR hS hf
set_option maxRecDepth 20000 in
theorem S_X12_allWeights {l : Launch} {O : XO} {K : XK} {h : XH} {v1 : Int32} {v2 : Int32}  {r : Int32}  (hf : f_X12_allWeights (oX O) h v1 v2 = some r) : x_M l O K yX12_allWeights cX12_allWeights 5 (some .int) 6 146 h [.ref (oX O + 64), .int v1, .int v2] (some (.int r)) h := by
  refine x_enter (by decide) (Nat.le_of_ble_eq_true rfl) (fun p e s m args below meth c C hR ls hl => ?_)
  have hS : va_S (oA O) s.heap s.heap [] := va_S.rf
  have hx := C.1
  have hb := C.2.1
  have hl : lv_has ls 5 [(0, .ref (oX O + 64)), (1, .int v1), (2, .int v2)] := hl
  rw [f_X12_allWeights] at hf
  refine lv_iconst (v := 1) hx hb dX12_allWeights_0 rfl ?_
  refine x_cSi1 C hR hS (S_X12_weight  rfl) mf_X12_weight tw_1952 (Nat.le_of_ble_eq_true rfl) (Nat.le_of_ble_eq_true rfl) hl.1 (Nat.le_of_ble_eq_true rfl) dX12_allWeights_1 ⟨Nat.le_refl _, Nat.le_refl _⟩ (fun H locs hR hS => ?_)
  refine lv_istore_n (lv' := [(3, _), (0, _), (1, _), (2, _)]) hx hb dX12_allWeights_4 rfl hl (Nat.le_of_ble_eq_true rfl) rfl (fun ls hl => ?_)
  refine lv_iconst (v := 2) hx hb dX12_allWeights_5 rfl ?_
  refine lv_istore (lv' := [(4, _), (3, _), (0, _), (1, _), (2, _)]) hx hb dX12_allWeights_6 hl (Nat.le_of_ble_eq_true rfl) rfl (fun ls hl => ?_)
  exact B_X12_allWeights_8  C  x_FU ls _ _ _ _ _ _  (lv_sub hl [2, 3, 4, 1, 0] rfl) hR hS hf
def f_X12_draw (x : Nat) (h : XH) : Int32 × XH := x_let (x_i h (x + 64) 16 ((1103515245 * (h.1 (x + 64) 16)) + 12345)) (fun h1 => (((x_shr (h1.1 (x + 64) 16) 16) &&& 32767), h1))
set_option maxRecDepth 20000 in
theorem S_X12_draw {l : Launch} {O : XO} {K : XK} {h : XH}  {r : Int32} {h' : XH}  (hf : f_X12_draw (oX O) h = (r, h')) : x_M l O K yX12_draw cX12_draw 1 (some .int) 0 0 h [.ref (oX O + 64)] (some (.int r)) h' := by
  refine x_enter (by decide) (Nat.le_of_ble_eq_true rfl) (fun p e s m args below meth c C hR ls hl => ?_)
  have hS : va_S (oA O) s.heap s.heap [] := va_S.rf
  have hx := C.1
  have hb := C.2.1
  have hl : lv_has ls 1 [(0, .ref (oX O + 64))] := hl
  rw [f_X12_draw] at hf
  refine lv_aload_n hx hb dX12_draw_0 rfl (lv_at hl 0 rfl) ?_
  refine lv_ldcw hx hb C.2.2.2.1 (C.2.2.2.2.1 _ tw_1947) dX12_draw_1 ?_
  refine lv_aload_n hx hb dX12_draw_4 rfl (lv_at hl 0 rfl) ?_
  refine gf_12_16 C hR (x_k hR 64 rfl) tw_1559 dX12_draw_5 ?_
  refine lv_imul hx hb dX12_draw_8 ?_
  refine lv_sipush (v := 12345) hx hb dX12_draw_9 rfl ?_
  refine lv_iadd hx hb dX12_draw_12 ?_
  obtain ⟨h1, eh1, hf⟩ := x_lt hf
  refine pf_12_16 C hR hS (x_k hR 64 rfl) tw_1559 dX12_draw_13 (fun H locs hR hS => ?_)
  rw [← eh1] at hR
  refine lv_aload_n hx hb dX12_draw_16 rfl (lv_at hl 0 rfl) ?_
  refine gf_12_16 C hR (x_k hR 64 rfl) tw_1559 dX12_draw_17 ?_
  refine lv_bipush (v := 16) hx hb dX12_draw_20 rfl ?_
  refine lv_ishr hx hb dX12_draw_22 ?_
  refine lv_sipush (v := 32767) hx hb dX12_draw_23 rfl ?_
  refine lv_iand hx hb dX12_draw_26 ?_
  cases hf
  exact x_iret C hR hS dX12_draw_27
def f_X12_kinds_62 (x : Nat) (h : XH) : Option (Int32 × XH) := some (0, h)
def f_X12_kinds (x : Nat) (h : XH) (v1 : Int32) (v2 : Int32) : Option (Int32 × XH) := x_let (x_i h (x + 64) 0 0) (fun h1 => Option.bind (f_X12_noPack x h1 v1) (fun v_2 => Option.bind (f_X12_throwsIf x h1 v_2 1) (fun q3 => if q3.1 = 0 then Option.bind (f_X12_isPut x q3.2 v1) (fun v_4 => Option.bind (f_X12_throwsIf x q3.2 (if v_4 = 0 then 1 else 0) 2) (fun q6 => if q6.1 = 0 then Option.bind (f_X12_throwsIf x q6.2 (if (f_X12_in q6.2 v2 0 6) = 0 then 1 else 0) 3) (fun q8 => if q8.1 = 0 then Option.bind (f_X12_kindsOf x q8.2 v1 v2) (fun v_9 => some (v_9, q8.2)) else f_X12_kinds_62 x q8.2) else f_X12_kinds_62 x q6.2)) else f_X12_kinds_62 x q3.2)))
set_option maxRecDepth 20000 in
theorem B_X12_kinds_62 {p : Program} {l : Launch} {e : Env} {s : State} {m : MethodId} {args : Array Value} {below : List Frame} {meth : Method} {c : Code} {O : XO} {K : XK} {r : Int32} {h' : XH}   (C : x_C p s m args meth c O cX12_kinds 3 RX12 (some .int))   (ls : Array Slot) (H : Heap) (locs : List Loc) (h : XH) (hl : lv_has ls 3 []) (hR : x_R O K h H) (hS : va_S (oA O) s.heap H locs) (hf : f_X12_kinds_62 (oX O) h = some (r, h')) : W p l e (x_rm 7 171) s m args below meth c H locs 0 0 (MQ below (x_Qc O K h' (some (.int r))) args s 0 0 (oA O)) (F0 m 62 ls []) := by
  have hx := C.1
  have hb := C.2.1
  rw [f_X12_kinds_62] at hf
  refine lv_iconst (v := 0) hx hb dX12_kinds_62 rfl ?_
  refine lv_goto (tgt := 72) hx hb dX12_kinds_63 rfl ?_
  cases hf
  exact x_iret C hR hS dX12_kinds_72
set_option maxRecDepth 20000 in
theorem S_X12_kinds {l : Launch} {O : XO} {K : XK} {h : XH} {v1 : Int32} {v2 : Int32}  {r : Int32} {h' : XH}  (hf : f_X12_kinds (oX O) h v1 v2 = some (r, h')) : x_M l O K yX12_kinds cX12_kinds 3 (some .int) 7 171 h [.ref (oX O + 64), .int v1, .int v2] (some (.int r)) h' := by
  refine x_enter (by decide) (Nat.le_of_ble_eq_true rfl) (fun p e s m args below meth c C hR ls hl => ?_)
  have hS : va_S (oA O) s.heap s.heap [] := va_S.rf
  have hx := C.1
  have hb := C.2.1
  have hl : lv_has ls 3 [(0, .ref (oX O + 64)), (1, .int v1), (2, .int v2)] := hl
  rw [f_X12_kinds] at hf
  refine lv_aload_n hx hb dX12_kinds_0 rfl (lv_at hl 0 rfl) ?_
  refine lv_iconst (v := 0) hx hb dX12_kinds_1 rfl ?_
  obtain ⟨h1, eh1, hf⟩ := x_lt hf
  refine pf_12_0 C hR hS (x_k hR 64 rfl) tw_1543 dX12_kinds_2 (fun H locs hR hS => ?_)
  rw [← eh1] at hR
  refine lv_aload_n hx hb dX12_kinds_5 rfl (lv_at hl 0 rfl) ?_
  refine lv_aload_n hx hb dX12_kinds_6 rfl (lv_at hl 0 rfl) ?_
  refine lv_iload_n hx hb dX12_kinds_7 rfl (lv_at hl 1 rfl) ?_
  obtain ⟨v_2, ev_2, hf⟩ := x_bd hf
  refine x_cVi1 C hR hS (S_X12_noPack  ev_2) (x_k hR 64 rfl) (by decide) rfl mf_X12_noPack tw_1802 (Nat.le_of_ble_eq_true rfl) (Nat.le_of_ble_eq_true rfl) hl.1 (Nat.le_of_ble_eq_true rfl) dX12_kinds_8 ⟨Nat.le_refl _, Nat.le_refl _⟩ (fun H locs hR hS => ?_)
  refine lv_iconst (v := 1) hx hb dX12_kinds_11 rfl ?_
  obtain ⟨q3, eq3, hf⟩ := x_bd hf
  refine x_cVi2 C hR hS (S_X12_throwsIf  eq3) (x_k hR 64 rfl) (by decide) rfl mf_X12_throwsIf tw_1741 (Nat.le_of_ble_eq_true rfl) (Nat.le_of_ble_eq_true rfl) hl.1 (Nat.le_of_ble_eq_true rfl) dX12_kinds_12 ⟨Nat.le_refl _, Nat.le_refl _⟩ (fun H locs hR hS => ?_)
  refine lv_if_ne (tgt := 62) hx hb dX12_kinds_15 rfl (fun hc => ?_) (fun hc => ?_)
  · have hf := x_in hc hf
    exact B_X12_kinds_62  C   ls _ _ q3.2  (lv_sub hl [] rfl) hR hS hf
  · have hf := x_ip hc hf
    refine lv_aload_n hx hb dX12_kinds_18 rfl (lv_at hl 0 rfl) ?_
    refine lv_aload_n hx hb dX12_kinds_19 rfl (lv_at hl 0 rfl) ?_
    refine lv_iload_n hx hb dX12_kinds_20 rfl (lv_at hl 1 rfl) ?_
    obtain ⟨v_4, ev_4, hf⟩ := x_bd hf
    refine x_cVi1 C hR hS (S_X12_isPut  ev_4) (x_k hR 64 rfl) (by decide) rfl mf_X12_isPut tw_1818 (Nat.le_of_ble_eq_true rfl) (Nat.le_of_ble_eq_true rfl) hl.1 (Nat.le_of_ble_eq_true rfl) dX12_kinds_21 ⟨Nat.le_refl _, Nat.le_refl _⟩ (fun H locs hR hS => ?_)
    have kM5 : ∀ (ls : Array Slot) (H : Heap) (locs : List Loc), lv_has ls 3 [(0, .ref (oX O + 64)), (1, .int v1), (2, .int v2)] → x_R O K q3.2 H → va_S (oA O) s.heap H locs → W p l e (x_rm 7 171) s m args below meth c H locs 0 0 (MQ below (x_Qc O K h' (some (.int r))) args s 0 0 (oA O)) (F0 m 32 ls [.int (if v_4 = 0 then 1 else 0), .ref (oX O + 64)]) := by
      intro ls H locs hl hR hS
      refine lv_iconst (v := 2) hx hb dX12_kinds_32 rfl ?_
      obtain ⟨q6, eq6, hf⟩ := x_bd hf
      refine x_cVi2 C hR hS (S_X12_throwsIf  eq6) (x_k hR 64 rfl) (by decide) rfl mf_X12_throwsIf tw_1741 (Nat.le_of_ble_eq_true rfl) (Nat.le_of_ble_eq_true rfl) hl.1 (Nat.le_of_ble_eq_true rfl) dX12_kinds_33 ⟨Nat.le_refl _, Nat.le_refl _⟩ (fun H locs hR hS => ?_)
      refine lv_if_ne (tgt := 62) hx hb dX12_kinds_36 rfl (fun hc => ?_) (fun hc => ?_)
      · have hf := x_in hc hf
        exact B_X12_kinds_62  C   ls _ _ q6.2  (lv_sub hl [] rfl) hR hS hf
      · have hf := x_ip hc hf
        refine lv_aload_n hx hb dX12_kinds_39 rfl (lv_at hl 0 rfl) ?_
        refine lv_iload_n hx hb dX12_kinds_40 rfl (lv_at hl 2 rfl) ?_
        refine lv_iconst (v := 0) hx hb dX12_kinds_41 rfl ?_
        refine lv_bipush (v := 6) hx hb dX12_kinds_42 rfl ?_
        refine x_cSi3 C hR hS (S_X12_in  rfl) mf_X12_in tw_1756 (Nat.le_of_ble_eq_true rfl) (Nat.le_of_ble_eq_true rfl) hl.1 (Nat.le_of_ble_eq_true rfl) dX12_kinds_44 ⟨Nat.le_refl _, Nat.le_refl _⟩ (fun H locs hR hS => ?_)
        have kM7 : ∀ (ls : Array Slot) (H : Heap) (locs : List Loc), lv_has ls 3 [(0, .ref (oX O + 64)), (1, .int v1), (2, .int v2)] → x_R O K q6.2 H → va_S (oA O) s.heap H locs → W p l e (x_rm 7 171) s m args below meth c H locs 0 0 (MQ below (x_Qc O K h' (some (.int r))) args s 0 0 (oA O)) (F0 m 55 ls [.int (if (f_X12_in q6.2 v2 0 6) = 0 then 1 else 0), .ref (oX O + 64)]) := by
          intro ls H locs hl hR hS
          refine lv_iconst (v := 3) hx hb dX12_kinds_55 rfl ?_
          obtain ⟨q8, eq8, hf⟩ := x_bd hf
          refine x_cVi2 C hR hS (S_X12_throwsIf  eq8) (x_k hR 64 rfl) (by decide) rfl mf_X12_throwsIf tw_1741 (Nat.le_of_ble_eq_true rfl) (Nat.le_of_ble_eq_true rfl) hl.1 (Nat.le_of_ble_eq_true rfl) dX12_kinds_56 ⟨Nat.le_refl _, Nat.le_refl _⟩ (fun H locs hR hS => ?_)
          refine lv_if_eq (tgt := 66) hx hb dX12_kinds_59 rfl (fun hc => ?_) (fun hc => ?_)
          · have hf := x_ip hc hf
            refine lv_aload_n hx hb dX12_kinds_66 rfl (lv_at hl 0 rfl) ?_
            refine lv_iload_n hx hb dX12_kinds_67 rfl (lv_at hl 1 rfl) ?_
            refine lv_iload_n hx hb dX12_kinds_68 rfl (lv_at hl 2 rfl) ?_
            obtain ⟨v_9, ev_9, hf⟩ := x_bd hf
            refine x_cVi2 C hR hS (S_X12_kindsOf  ev_9) (x_k hR 64 rfl) (by decide) rfl mf_X12_kindsOf tw_1959 (Nat.le_of_ble_eq_true rfl) (Nat.le_of_ble_eq_true rfl) hl.1 (Nat.le_of_ble_eq_true rfl) dX12_kinds_69 ⟨Nat.le_refl _, Nat.le_refl _⟩ (fun H locs hR hS => ?_)
            cases hf
            exact x_iret C hR hS dX12_kinds_72
          · have hf := x_in hc hf
            exact B_X12_kinds_62  C   ls _ _ q8.2  (lv_sub hl [] rfl) hR hS hf
        refine lv_if_ne (tgt := 54) hx hb dX12_kinds_47 rfl (fun hc => ?_) (fun hc => ?_)
        · try simp only [if_neg hc] at kM7
          refine lv_iconst (v := 0) hx hb dX12_kinds_54 rfl ?_
          exact kM7 ls _ _ (lv_sub hl [0, 1, 2] rfl) hR hS
        · try simp only [if_pos hc] at kM7
          refine lv_iconst (v := 1) hx hb dX12_kinds_50 rfl ?_
          refine lv_goto (tgt := 55) hx hb dX12_kinds_51 rfl ?_
          exact kM7 ls _ _ (lv_sub hl [0, 1, 2] rfl) hR hS
    refine lv_if_ne (tgt := 31) hx hb dX12_kinds_24 rfl (fun hc => ?_) (fun hc => ?_)
    · try simp only [if_neg hc] at kM5
      refine lv_iconst (v := 0) hx hb dX12_kinds_31 rfl ?_
      exact kM5 ls _ _ (lv_sub hl [0, 1, 2] rfl) hR hS
    · try simp only [if_pos hc] at kM5
      refine lv_iconst (v := 1) hx hb dX12_kinds_27 rfl ?_
      refine lv_goto (tgt := 32) hx hb dX12_kinds_28 rfl ?_
      exact kM5 ls _ _ (lv_sub hl [0, 1, 2] rfl) hR hS
def f_X12_noRule (x : Nat) (h : XH) (v1 : Int32) : Option Int32 := Option.bind (f_X12_none x h v1 3) (fun v_1 => if x_isb v_1 = true then some v_1 else none)
set_option maxRecDepth 20000 in
theorem S_X12_noRule {l : Launch} {O : XO} {K : XK} {h : XH} {v1 : Int32}  {r : Int32}  (hf : f_X12_noRule (oX O) h v1 = some r) : x_M l O K yX12_noRule cX12_noRule 2 (some .boolean) 2 44 h [.ref (oX O + 64), .int v1] (some (.int r)) h := by
  refine x_enter (by decide) (Nat.le_of_ble_eq_true rfl) (fun p e s m args below meth c C hR ls hl => ?_)
  have hS : va_S (oA O) s.heap s.heap [] := va_S.rf
  have hx := C.1
  have hb := C.2.1
  have hl : lv_has ls 2 [(0, .ref (oX O + 64)), (1, .int v1)] := hl
  rw [f_X12_noRule] at hf
  refine lv_aload_n hx hb dX12_noRule_0 rfl (lv_at hl 0 rfl) ?_
  refine lv_iload_n hx hb dX12_noRule_1 rfl (lv_at hl 1 rfl) ?_
  refine lv_iconst (v := 3) hx hb dX12_noRule_2 rfl ?_
  obtain ⟨v_1, ev_1, hf⟩ := x_bd hf
  refine x_cVi2 C hR hS (S_X12_none  ev_1) (x_k hR 64 rfl) (by decide) rfl mf_X12_none tw_1778 (Nat.le_of_ble_eq_true rfl) (Nat.le_of_ble_eq_true rfl) hl.1 (Nat.le_of_ble_eq_true rfl) dX12_noRule_3 ⟨Nat.le_refl _, Nat.le_refl _⟩ (fun H locs hR hS => ?_)
  obtain ⟨g2, hf⟩ := x_gd hf
  cases hf
  exact x_zret C hR hS (x_isb_of g2) dX12_noRule_6
def f_X12_scored (x : Nat) (h : XH) (v1 : Int32) (v2 : Int32) (v3 : Int32) (v4 : Int32) : Option (Int32 × XH) := if x_b 0 10 = true then x_let (x_i h (x + 69) (0 : Int32).toNatClampNeg v3) (fun h2 => if x_b 1 10 = true then x_let (x_i h2 (x + 69) (1 : Int32).toNatClampNeg ((v2 - v3) - v4)) (fun h4 => if x_b 2 10 = true then x_let (x_i h4 (x + 69) (2 : Int32).toNatClampNeg v4) (fun h6 => if x_b 3 10 = true then x_let (x_i h6 (x + 69) (3 : Int32).toNatClampNeg v2) (fun h8 => if x_b 8 10 = true then x_let (x_i h8 (x + 69) (8 : Int32).toNatClampNeg (if v3 = v2 then 1 else 0)) (fun h11 => Option.bind (f_X12_told x h11 (3 + v1)) (fun q12 => some (q12.1, q12.2))) else none) else none) else none) else none) else none
set_option maxRecDepth 20000 in
theorem S_X12_scored {l : Launch} {O : XO} {K : XK} {h : XH} {v1 : Int32} {v2 : Int32} {v3 : Int32} {v4 : Int32}  {r : Int32} {h' : XH}  (hf : f_X12_scored (oX O) h v1 v2 v3 v4 = some (r, h')) : x_M l O K yX12_scored cX12_scored 5 (some .int) 3 73 h [.ref (oX O + 64), .int v1, .int v2, .int v3, .int v4] (some (.int r)) h' := by
  refine x_enter (by decide) (Nat.le_of_ble_eq_true rfl) (fun p e s m args below meth c C hR ls hl => ?_)
  have hS : va_S (oA O) s.heap s.heap [] := va_S.rf
  have hx := C.1
  have hb := C.2.1
  have hl : lv_has ls 5 [(0, .ref (oX O + 64)), (1, .int v1), (2, .int v2), (3, .int v3), (4, .int v4)] := hl
  rw [f_X12_scored] at hf
  refine lv_aload_n hx hb dX12_scored_0 rfl (lv_at hl 0 rfl) ?_
  refine gf_12_14 C hR (x_k hR 64 rfl) tw_1557 dX12_scored_1 ?_
  refine lv_iconst (v := 0) hx hb dX12_scored_4 rfl ?_
  refine lv_iload_n hx hb dX12_scored_5 rfl (lv_at hl 3 rfl) ?_
  obtain ⟨g1, hf⟩ := x_gd hf
  obtain ⟨h2, eh2, hf⟩ := x_lt hf
  refine x_iast C hR hS (x_k1 (x_k hR 69 rfl)) (x_k2 (x_k hR 69 rfl) g1) dX12_scored_6 (fun H locs hR hS => ?_)
  rw [← eh2] at hR
  refine lv_aload_n hx hb dX12_scored_7 rfl (lv_at hl 0 rfl) ?_
  refine gf_12_14 C hR (x_k hR 64 rfl) tw_1557 dX12_scored_8 ?_
  refine lv_iconst (v := 1) hx hb dX12_scored_11 rfl ?_
  refine lv_iload_n hx hb dX12_scored_12 rfl (lv_at hl 2 rfl) ?_
  refine lv_iload_n hx hb dX12_scored_13 rfl (lv_at hl 3 rfl) ?_
  refine lv_isub hx hb dX12_scored_14 ?_
  refine lv_iload hx hb dX12_scored_15 (lv_at hl 4 rfl) ?_
  refine lv_isub hx hb dX12_scored_17 ?_
  obtain ⟨g3, hf⟩ := x_gd hf
  obtain ⟨h4, eh4, hf⟩ := x_lt hf
  refine x_iast C hR hS (x_k1 (x_k hR 69 rfl)) (x_k2 (x_k hR 69 rfl) g3) dX12_scored_18 (fun H locs hR hS => ?_)
  rw [← eh4] at hR
  refine lv_aload_n hx hb dX12_scored_19 rfl (lv_at hl 0 rfl) ?_
  refine gf_12_14 C hR (x_k hR 64 rfl) tw_1557 dX12_scored_20 ?_
  refine lv_iconst (v := 2) hx hb dX12_scored_23 rfl ?_
  refine lv_iload hx hb dX12_scored_24 (lv_at hl 4 rfl) ?_
  obtain ⟨g5, hf⟩ := x_gd hf
  obtain ⟨h6, eh6, hf⟩ := x_lt hf
  refine x_iast C hR hS (x_k1 (x_k hR 69 rfl)) (x_k2 (x_k hR 69 rfl) g5) dX12_scored_26 (fun H locs hR hS => ?_)
  rw [← eh6] at hR
  refine lv_aload_n hx hb dX12_scored_27 rfl (lv_at hl 0 rfl) ?_
  refine gf_12_14 C hR (x_k hR 64 rfl) tw_1557 dX12_scored_28 ?_
  refine lv_iconst (v := 3) hx hb dX12_scored_31 rfl ?_
  refine lv_iload_n hx hb dX12_scored_32 rfl (lv_at hl 2 rfl) ?_
  obtain ⟨g7, hf⟩ := x_gd hf
  obtain ⟨h8, eh8, hf⟩ := x_lt hf
  refine x_iast C hR hS (x_k1 (x_k hR 69 rfl)) (x_k2 (x_k hR 69 rfl) g7) dX12_scored_33 (fun H locs hR hS => ?_)
  rw [← eh8] at hR
  refine lv_aload_n hx hb dX12_scored_34 rfl (lv_at hl 0 rfl) ?_
  refine gf_12_14 C hR (x_k hR 64 rfl) tw_1557 dX12_scored_35 ?_
  refine lv_bipush (v := 8) hx hb dX12_scored_38 rfl ?_
  refine lv_iload_n hx hb dX12_scored_40 rfl (lv_at hl 3 rfl) ?_
  refine lv_iload_n hx hb dX12_scored_41 rfl (lv_at hl 2 rfl) ?_
  have kM9 : ∀ (ls : Array Slot) (H : Heap) (locs : List Loc), lv_has ls 5 [(0, .ref (oX O + 64)), (1, .int v1)] → x_R O K h8 H → va_S (oA O) s.heap H locs → W p l e (x_rm 3 73) s m args below meth c H locs 0 0 (MQ below (x_Qc O K h' (some (.int r))) args s 0 0 (oA O)) (F0 m 50 ls [.int (if v3 = v2 then 1 else 0), .int 8, .ref (oX O + 69)]) := by
    intro ls H locs hl hR hS
    obtain ⟨g10, hf⟩ := x_gd hf
    obtain ⟨h11, eh11, hf⟩ := x_lt hf
    refine x_iast C hR hS (x_k1 (x_k hR 69 rfl)) (x_k2 (x_k hR 69 rfl) g10) dX12_scored_50 (fun H locs hR hS => ?_)
    rw [← eh11] at hR
    refine lv_aload_n hx hb dX12_scored_51 rfl (lv_at hl 0 rfl) ?_
    refine lv_iconst (v := 3) hx hb dX12_scored_52 rfl ?_
    refine lv_iload_n hx hb dX12_scored_53 rfl (lv_at hl 1 rfl) ?_
    refine lv_iadd hx hb dX12_scored_54 ?_
    obtain ⟨q12, eq12, hf⟩ := x_bd hf
    refine x_cVi1 C hR hS (S_X12_told  eq12) (x_k hR 64 rfl) (by decide) rfl mf_X12_told tw_1893 (Nat.le_of_ble_eq_true rfl) (Nat.le_of_ble_eq_true rfl) hl.1 (Nat.le_of_ble_eq_true rfl) dX12_scored_55 ⟨Nat.le_refl _, Nat.le_refl _⟩ (fun H locs hR hS => ?_)
    cases hf
    exact x_iret C hR hS dX12_scored_58
  refine lv_icmp_ne (tgt := 49) hx hb dX12_scored_42 rfl (fun hc => ?_) (fun hc => ?_)
  · try simp only [if_neg hc] at kM9
    refine lv_iconst (v := 0) hx hb dX12_scored_49 rfl ?_
    exact kM9 ls _ _ (lv_sub hl [0, 1] rfl) hR hS
  · try simp only [if_pos hc] at kM9
    refine lv_iconst (v := 1) hx hb dX12_scored_45 rfl ?_
    refine lv_goto (tgt := 50) hx hb dX12_scored_46 rfl ?_
    exact kM9 ls _ _ (lv_sub hl [0, 1] rfl) hR hS
def f_X12_score_55 (x : Nat) (h : XH) : Option (Int32 × XH) := some (0, h)
def f_X12_score_27 (x : Nat) (h : XH) (v1 : Int32) (v2 : Int32) (s1 : Int32) : Option (Int32 × XH) := Option.bind (f_X12_throwsIf x h s1 1) (fun q3 => if q3.1 = 0 then Option.bind (f_X12_isPut x q3.2 v2) (fun v_4 => Option.bind (f_X12_throwsIf x q3.2 (if v_4 = 0 then 1 else 0) 2) (fun q6 => if q6.1 = 0 then Option.bind (f_X12_of x q6.2 v2 2) (fun v_7 => Option.bind (f_X12_kindsOf x q6.2 v2 0) (fun v_8 => Option.bind (f_X12_kindsOf x q6.2 v2 1) (fun v_9 => Option.bind (f_X12_scored x q6.2 v1 v_7 v_8 v_9) (fun q10 => some (q10.1, q10.2))))) else f_X12_score_55 x q6.2)) else f_X12_score_55 x q3.2)
def f_X12_score_22 (x : Nat) (h : XH) (v1 : Int32) (v2 : Int32) : Option (Int32 × XH) := f_X12_score_27 x h v1 v2 1
def f_X12_score (x : Nat) (h : XH) (v1 : Int32) (v2 : Int32) : Option (Int32 × XH) := x_let (x_i h (x + 64) 0 0) (fun h1 => Option.bind (f_X12_noRule x h1 v1) (fun v_2 => if v_2 = 0 then Option.bind (f_X12_noPack x h1 v2) (fun v_11 => Option.bind (f_X12_throwsIf x h1 (if v_11 = 0 then 0 else 1) 1) (fun q13 => if q13.1 = 0 then Option.bind (f_X12_isPut x q13.2 v2) (fun v_14 => Option.bind (f_X12_throwsIf x q13.2 (if v_14 = 0 then 1 else 0) 2) (fun q16 => if q16.1 = 0 then Option.bind (f_X12_of x q16.2 v2 2) (fun v_17 => Option.bind (f_X12_kindsOf x q16.2 v2 0) (fun v_18 => Option.bind (f_X12_kindsOf x q16.2 v2 1) (fun v_19 => Option.bind (f_X12_scored x q16.2 v1 v_17 v_18 v_19) (fun q20 => some (q20.1, q20.2))))) else f_X12_score_55 x q16.2)) else f_X12_score_55 x q13.2)) else f_X12_score_22 x h1 v1 v2))
set_option maxRecDepth 20000 in
theorem B_X12_score_55 {p : Program} {l : Launch} {e : Env} {s : State} {m : MethodId} {args : Array Value} {below : List Frame} {meth : Method} {c : Code} {O : XO} {K : XK} {r : Int32} {h' : XH}   (C : x_C p s m args meth c O cX12_score 3 RX12 (some .int))   (ls : Array Slot) (H : Heap) (locs : List Loc) (h : XH) (hl : lv_has ls 3 []) (hR : x_R O K h H) (hS : va_S (oA O) s.heap H locs) (hf : f_X12_score_55 (oX O) h = some (r, h')) : W p l e (x_rm 7 171) s m args below meth c H locs 0 0 (MQ below (x_Qc O K h' (some (.int r))) args s 0 0 (oA O)) (F0 m 55 ls []) := by
  have hx := C.1
  have hb := C.2.1
  rw [f_X12_score_55] at hf
  refine lv_iconst (v := 0) hx hb dX12_score_55 rfl ?_
  cases hf
  exact x_iret C hR hS dX12_score_56
set_option maxRecDepth 20000 in
theorem B_X12_score_27 {p : Program} {l : Launch} {e : Env} {s : State} {m : MethodId} {args : Array Value} {below : List Frame} {meth : Method} {c : Code} {O : XO} {K : XK} {r : Int32} {h' : XH}   (C : x_C p s m args meth c O cX12_score 3 RX12 (some .int))   (ls : Array Slot) (H : Heap) (locs : List Loc) (h : XH) (v1 : Int32) (v2 : Int32) (s1 : Int32) (hl : lv_has ls 3 [(0, .ref (oX O + 64)), (1, .int v1), (2, .int v2)]) (hR : x_R O K h H) (hS : va_S (oA O) s.heap H locs) (hf : f_X12_score_27 (oX O) h v1 v2 s1 = some (r, h')) : W p l e (x_rm 7 171) s m args below meth c H locs 0 0 (MQ below (x_Qc O K h' (some (.int r))) args s 0 0 (oA O)) (F0 m 27 ls [.int s1, .ref (oX O + 64)]) := by
  have hx := C.1
  have hb := C.2.1
  rw [f_X12_score_27] at hf
  refine lv_iconst (v := 1) hx hb dX12_score_27 rfl ?_
  obtain ⟨q3, eq3, hf⟩ := x_bd hf
  refine x_cVi2 C hR hS (S_X12_throwsIf  eq3) (x_k hR 64 rfl) (by decide) rfl mf_X12_throwsIf tw_1741 (Nat.le_of_ble_eq_true rfl) (Nat.le_of_ble_eq_true rfl) hl.1 (Nat.le_of_ble_eq_true rfl) dX12_score_28 ⟨Nat.le_refl _, Nat.le_refl _⟩ (fun H locs hR hS => ?_)
  refine lv_if_ne (tgt := 55) hx hb dX12_score_31 rfl (fun hc => ?_) (fun hc => ?_)
  · have hf := x_in hc hf
    exact B_X12_score_55  C   ls _ _ q3.2  (lv_sub hl [] rfl) hR hS hf
  · have hf := x_ip hc hf
    refine lv_aload_n hx hb dX12_score_34 rfl (lv_at hl 0 rfl) ?_
    refine lv_aload_n hx hb dX12_score_35 rfl (lv_at hl 0 rfl) ?_
    refine lv_iload_n hx hb dX12_score_36 rfl (lv_at hl 2 rfl) ?_
    obtain ⟨v_4, ev_4, hf⟩ := x_bd hf
    refine x_cVi1 C hR hS (S_X12_isPut  ev_4) (x_k hR 64 rfl) (by decide) rfl mf_X12_isPut tw_1818 (Nat.le_of_ble_eq_true rfl) (Nat.le_of_ble_eq_true rfl) hl.1 (Nat.le_of_ble_eq_true rfl) dX12_score_37 ⟨Nat.le_refl _, Nat.le_refl _⟩ (fun H locs hR hS => ?_)
    have kM5 : ∀ (ls : Array Slot) (H : Heap) (locs : List Loc), lv_has ls 3 [(0, .ref (oX O + 64)), (1, .int v1), (2, .int v2)] → x_R O K q3.2 H → va_S (oA O) s.heap H locs → W p l e (x_rm 7 171) s m args below meth c H locs 0 0 (MQ below (x_Qc O K h' (some (.int r))) args s 0 0 (oA O)) (F0 m 48 ls [.int (if v_4 = 0 then 1 else 0), .ref (oX O + 64)]) := by
      intro ls H locs hl hR hS
      refine lv_iconst (v := 2) hx hb dX12_score_48 rfl ?_
      obtain ⟨q6, eq6, hf⟩ := x_bd hf
      refine x_cVi2 C hR hS (S_X12_throwsIf  eq6) (x_k hR 64 rfl) (by decide) rfl mf_X12_throwsIf tw_1741 (Nat.le_of_ble_eq_true rfl) (Nat.le_of_ble_eq_true rfl) hl.1 (Nat.le_of_ble_eq_true rfl) dX12_score_49 ⟨Nat.le_refl _, Nat.le_refl _⟩ (fun H locs hR hS => ?_)
      refine lv_if_eq (tgt := 57) hx hb dX12_score_52 rfl (fun hc => ?_) (fun hc => ?_)
      · have hf := x_ip hc hf
        refine lv_aload_n hx hb dX12_score_57 rfl (lv_at hl 0 rfl) ?_
        refine lv_iload_n hx hb dX12_score_58 rfl (lv_at hl 1 rfl) ?_
        refine lv_aload_n hx hb dX12_score_59 rfl (lv_at hl 0 rfl) ?_
        refine lv_iload_n hx hb dX12_score_60 rfl (lv_at hl 2 rfl) ?_
        refine lv_iconst (v := 2) hx hb dX12_score_61 rfl ?_
        obtain ⟨v_7, ev_7, hf⟩ := x_bd hf
        refine x_cVi2 C hR hS (S_X12_of  ev_7) (x_k hR 64 rfl) (by decide) rfl mf_X12_of tw_1806 (Nat.le_of_ble_eq_true rfl) (Nat.le_of_ble_eq_true rfl) hl.1 (Nat.le_of_ble_eq_true rfl) dX12_score_62 ⟨Nat.le_refl _, Nat.le_refl _⟩ (fun H locs hR hS => ?_)
        refine lv_aload_n hx hb dX12_score_65 rfl (lv_at hl 0 rfl) ?_
        refine lv_iload_n hx hb dX12_score_66 rfl (lv_at hl 2 rfl) ?_
        refine lv_iconst (v := 0) hx hb dX12_score_67 rfl ?_
        obtain ⟨v_8, ev_8, hf⟩ := x_bd hf
        refine x_cVi2 C hR hS (S_X12_kindsOf  ev_8) (x_k hR 64 rfl) (by decide) rfl mf_X12_kindsOf tw_1959 (Nat.le_of_ble_eq_true rfl) (Nat.le_of_ble_eq_true rfl) hl.1 (Nat.le_of_ble_eq_true rfl) dX12_score_68 ⟨Nat.le_refl _, Nat.le_refl _⟩ (fun H locs hR hS => ?_)
        refine lv_aload_n hx hb dX12_score_71 rfl (lv_at hl 0 rfl) ?_
        refine lv_iload_n hx hb dX12_score_72 rfl (lv_at hl 2 rfl) ?_
        refine lv_iconst (v := 1) hx hb dX12_score_73 rfl ?_
        obtain ⟨v_9, ev_9, hf⟩ := x_bd hf
        refine x_cVi2 C hR hS (S_X12_kindsOf  ev_9) (x_k hR 64 rfl) (by decide) rfl mf_X12_kindsOf tw_1959 (Nat.le_of_ble_eq_true rfl) (Nat.le_of_ble_eq_true rfl) hl.1 (Nat.le_of_ble_eq_true rfl) dX12_score_74 ⟨Nat.le_refl _, Nat.le_refl _⟩ (fun H locs hR hS => ?_)
        obtain ⟨q10, eq10, hf⟩ := x_bd hf
        refine x_cVi4 C hR hS (S_X12_scored  eq10) (x_k hR 64 rfl) (by decide) rfl mf_X12_scored tw_1983 (Nat.le_of_ble_eq_true rfl) (Nat.le_of_ble_eq_true rfl) hl.1 (Nat.le_of_ble_eq_true rfl) dX12_score_77 ⟨Nat.le_refl _, Nat.le_refl _⟩ (fun H locs hR hS => ?_)
        cases hf
        exact x_iret C hR hS dX12_score_80
      · have hf := x_in hc hf
        exact B_X12_score_55  C   ls _ _ q6.2  (lv_sub hl [] rfl) hR hS hf
    refine lv_if_ne (tgt := 47) hx hb dX12_score_40 rfl (fun hc => ?_) (fun hc => ?_)
    · try simp only [if_neg hc] at kM5
      refine lv_iconst (v := 0) hx hb dX12_score_47 rfl ?_
      exact kM5 ls _ _ (lv_sub hl [0, 1, 2] rfl) hR hS
    · try simp only [if_pos hc] at kM5
      refine lv_iconst (v := 1) hx hb dX12_score_43 rfl ?_
      refine lv_goto (tgt := 48) hx hb dX12_score_44 rfl ?_
      exact kM5 ls _ _ (lv_sub hl [0, 1, 2] rfl) hR hS
set_option maxRecDepth 20000 in
theorem B_X12_score_22 {p : Program} {l : Launch} {e : Env} {s : State} {m : MethodId} {args : Array Value} {below : List Frame} {meth : Method} {c : Code} {O : XO} {K : XK} {r : Int32} {h' : XH}   (C : x_C p s m args meth c O cX12_score 3 RX12 (some .int))   (ls : Array Slot) (H : Heap) (locs : List Loc) (h : XH) (v1 : Int32) (v2 : Int32) (hl : lv_has ls 3 [(0, .ref (oX O + 64)), (1, .int v1), (2, .int v2)]) (hR : x_R O K h H) (hS : va_S (oA O) s.heap H locs) (hf : f_X12_score_22 (oX O) h v1 v2 = some (r, h')) : W p l e (x_rm 7 171) s m args below meth c H locs 0 0 (MQ below (x_Qc O K h' (some (.int r))) args s 0 0 (oA O)) (F0 m 22 ls [.ref (oX O + 64)]) := by
  have hx := C.1
  have hb := C.2.1
  rw [f_X12_score_22] at hf
  refine lv_iconst (v := 1) hx hb dX12_score_22 rfl ?_
  refine lv_goto (tgt := 27) hx hb dX12_score_23 rfl ?_
  exact B_X12_score_27  C   ls _ _ h _ _ _  (lv_sub hl [0, 1, 2] rfl) hR hS hf
set_option maxRecDepth 20000 in
theorem S_X12_score {l : Launch} {O : XO} {K : XK} {h : XH} {v1 : Int32} {v2 : Int32}  {r : Int32} {h' : XH}  (hf : f_X12_score (oX O) h v1 v2 = some (r, h')) : x_M l O K yX12_score cX12_score 3 (some .int) 7 171 h [.ref (oX O + 64), .int v1, .int v2] (some (.int r)) h' := by
  refine x_enter (by decide) (Nat.le_of_ble_eq_true rfl) (fun p e s m args below meth c C hR ls hl => ?_)
  have hS : va_S (oA O) s.heap s.heap [] := va_S.rf
  have hx := C.1
  have hb := C.2.1
  have hl : lv_has ls 3 [(0, .ref (oX O + 64)), (1, .int v1), (2, .int v2)] := hl
  rw [f_X12_score] at hf
  refine lv_aload_n hx hb dX12_score_0 rfl (lv_at hl 0 rfl) ?_
  refine lv_iconst (v := 0) hx hb dX12_score_1 rfl ?_
  obtain ⟨h1, eh1, hf⟩ := x_lt hf
  refine pf_12_0 C hR hS (x_k hR 64 rfl) tw_1543 dX12_score_2 (fun H locs hR hS => ?_)
  rw [← eh1] at hR
  refine lv_aload_n hx hb dX12_score_5 rfl (lv_at hl 0 rfl) ?_
  refine lv_aload_n hx hb dX12_score_6 rfl (lv_at hl 0 rfl) ?_
  refine lv_iload_n hx hb dX12_score_7 rfl (lv_at hl 1 rfl) ?_
  obtain ⟨v_2, ev_2, hf⟩ := x_bd hf
  refine x_cVi1 C hR hS (S_X12_noRule  ev_2) (x_k hR 64 rfl) (by decide) rfl mf_X12_noRule tw_1979 (Nat.le_of_ble_eq_true rfl) (Nat.le_of_ble_eq_true rfl) hl.1 (Nat.le_of_ble_eq_true rfl) dX12_score_8 ⟨Nat.le_refl _, Nat.le_refl _⟩ (fun H locs hR hS => ?_)
  refine lv_if_ne (tgt := 22) hx hb dX12_score_11 rfl (fun hc => ?_) (fun hc => ?_)
  · have hf := x_in hc hf
    exact B_X12_score_22  C   ls _ _ h1 _ _  (lv_sub hl [0, 1, 2] rfl) hR hS hf
  · have hf := x_ip hc hf
    refine lv_aload_n hx hb dX12_score_14 rfl (lv_at hl 0 rfl) ?_
    refine lv_iload_n hx hb dX12_score_15 rfl (lv_at hl 2 rfl) ?_
    obtain ⟨v_11, ev_11, hf⟩ := x_bd hf
    refine x_cVi1 C hR hS (S_X12_noPack  ev_11) (x_k hR 64 rfl) (by decide) rfl mf_X12_noPack tw_1802 (Nat.le_of_ble_eq_true rfl) (Nat.le_of_ble_eq_true rfl) hl.1 (Nat.le_of_ble_eq_true rfl) dX12_score_16 ⟨Nat.le_refl _, Nat.le_refl _⟩ (fun H locs hR hS => ?_)
    have kM12 : ∀ (ls : Array Slot) (H : Heap) (locs : List Loc), lv_has ls 3 [(0, .ref (oX O + 64)), (1, .int v1), (2, .int v2)] → x_R O K h1 H → va_S (oA O) s.heap H locs → W p l e (x_rm 7 171) s m args below meth c H locs 0 0 (MQ below (x_Qc O K h' (some (.int r))) args s 0 0 (oA O)) (F0 m 27 ls [.int (if v_11 = 0 then 0 else 1), .ref (oX O + 64)]) := by
      intro ls H locs hl hR hS
      refine lv_iconst (v := 1) hx hb dX12_score_27 rfl ?_
      obtain ⟨q13, eq13, hf⟩ := x_bd hf
      refine x_cVi2 C hR hS (S_X12_throwsIf  eq13) (x_k hR 64 rfl) (by decide) rfl mf_X12_throwsIf tw_1741 (Nat.le_of_ble_eq_true rfl) (Nat.le_of_ble_eq_true rfl) hl.1 (Nat.le_of_ble_eq_true rfl) dX12_score_28 ⟨Nat.le_refl _, Nat.le_refl _⟩ (fun H locs hR hS => ?_)
      refine lv_if_ne (tgt := 55) hx hb dX12_score_31 rfl (fun hc => ?_) (fun hc => ?_)
      · have hf := x_in hc hf
        exact B_X12_score_55  C   ls _ _ q13.2  (lv_sub hl [] rfl) hR hS hf
      · have hf := x_ip hc hf
        refine lv_aload_n hx hb dX12_score_34 rfl (lv_at hl 0 rfl) ?_
        refine lv_aload_n hx hb dX12_score_35 rfl (lv_at hl 0 rfl) ?_
        refine lv_iload_n hx hb dX12_score_36 rfl (lv_at hl 2 rfl) ?_
        obtain ⟨v_14, ev_14, hf⟩ := x_bd hf
        refine x_cVi1 C hR hS (S_X12_isPut  ev_14) (x_k hR 64 rfl) (by decide) rfl mf_X12_isPut tw_1818 (Nat.le_of_ble_eq_true rfl) (Nat.le_of_ble_eq_true rfl) hl.1 (Nat.le_of_ble_eq_true rfl) dX12_score_37 ⟨Nat.le_refl _, Nat.le_refl _⟩ (fun H locs hR hS => ?_)
        have kM15 : ∀ (ls : Array Slot) (H : Heap) (locs : List Loc), lv_has ls 3 [(0, .ref (oX O + 64)), (1, .int v1), (2, .int v2)] → x_R O K q13.2 H → va_S (oA O) s.heap H locs → W p l e (x_rm 7 171) s m args below meth c H locs 0 0 (MQ below (x_Qc O K h' (some (.int r))) args s 0 0 (oA O)) (F0 m 48 ls [.int (if v_14 = 0 then 1 else 0), .ref (oX O + 64)]) := by
          intro ls H locs hl hR hS
          refine lv_iconst (v := 2) hx hb dX12_score_48 rfl ?_
          obtain ⟨q16, eq16, hf⟩ := x_bd hf
          refine x_cVi2 C hR hS (S_X12_throwsIf  eq16) (x_k hR 64 rfl) (by decide) rfl mf_X12_throwsIf tw_1741 (Nat.le_of_ble_eq_true rfl) (Nat.le_of_ble_eq_true rfl) hl.1 (Nat.le_of_ble_eq_true rfl) dX12_score_49 ⟨Nat.le_refl _, Nat.le_refl _⟩ (fun H locs hR hS => ?_)
          refine lv_if_eq (tgt := 57) hx hb dX12_score_52 rfl (fun hc => ?_) (fun hc => ?_)
          · have hf := x_ip hc hf
            refine lv_aload_n hx hb dX12_score_57 rfl (lv_at hl 0 rfl) ?_
            refine lv_iload_n hx hb dX12_score_58 rfl (lv_at hl 1 rfl) ?_
            refine lv_aload_n hx hb dX12_score_59 rfl (lv_at hl 0 rfl) ?_
            refine lv_iload_n hx hb dX12_score_60 rfl (lv_at hl 2 rfl) ?_
            refine lv_iconst (v := 2) hx hb dX12_score_61 rfl ?_
            obtain ⟨v_17, ev_17, hf⟩ := x_bd hf
            refine x_cVi2 C hR hS (S_X12_of  ev_17) (x_k hR 64 rfl) (by decide) rfl mf_X12_of tw_1806 (Nat.le_of_ble_eq_true rfl) (Nat.le_of_ble_eq_true rfl) hl.1 (Nat.le_of_ble_eq_true rfl) dX12_score_62 ⟨Nat.le_refl _, Nat.le_refl _⟩ (fun H locs hR hS => ?_)
            refine lv_aload_n hx hb dX12_score_65 rfl (lv_at hl 0 rfl) ?_
            refine lv_iload_n hx hb dX12_score_66 rfl (lv_at hl 2 rfl) ?_
            refine lv_iconst (v := 0) hx hb dX12_score_67 rfl ?_
            obtain ⟨v_18, ev_18, hf⟩ := x_bd hf
            refine x_cVi2 C hR hS (S_X12_kindsOf  ev_18) (x_k hR 64 rfl) (by decide) rfl mf_X12_kindsOf tw_1959 (Nat.le_of_ble_eq_true rfl) (Nat.le_of_ble_eq_true rfl) hl.1 (Nat.le_of_ble_eq_true rfl) dX12_score_68 ⟨Nat.le_refl _, Nat.le_refl _⟩ (fun H locs hR hS => ?_)
            refine lv_aload_n hx hb dX12_score_71 rfl (lv_at hl 0 rfl) ?_
            refine lv_iload_n hx hb dX12_score_72 rfl (lv_at hl 2 rfl) ?_
            refine lv_iconst (v := 1) hx hb dX12_score_73 rfl ?_
            obtain ⟨v_19, ev_19, hf⟩ := x_bd hf
            refine x_cVi2 C hR hS (S_X12_kindsOf  ev_19) (x_k hR 64 rfl) (by decide) rfl mf_X12_kindsOf tw_1959 (Nat.le_of_ble_eq_true rfl) (Nat.le_of_ble_eq_true rfl) hl.1 (Nat.le_of_ble_eq_true rfl) dX12_score_74 ⟨Nat.le_refl _, Nat.le_refl _⟩ (fun H locs hR hS => ?_)
            obtain ⟨q20, eq20, hf⟩ := x_bd hf
            refine x_cVi4 C hR hS (S_X12_scored  eq20) (x_k hR 64 rfl) (by decide) rfl mf_X12_scored tw_1983 (Nat.le_of_ble_eq_true rfl) (Nat.le_of_ble_eq_true rfl) hl.1 (Nat.le_of_ble_eq_true rfl) dX12_score_77 ⟨Nat.le_refl _, Nat.le_refl _⟩ (fun H locs hR hS => ?_)
            cases hf
            exact x_iret C hR hS dX12_score_80
          · have hf := x_in hc hf
            exact B_X12_score_55  C   ls _ _ q16.2  (lv_sub hl [] rfl) hR hS hf
        refine lv_if_ne (tgt := 47) hx hb dX12_score_40 rfl (fun hc => ?_) (fun hc => ?_)
        · try simp only [if_neg hc] at kM15
          refine lv_iconst (v := 0) hx hb dX12_score_47 rfl ?_
          exact kM15 ls _ _ (lv_sub hl [0, 1, 2] rfl) hR hS
        · try simp only [if_pos hc] at kM15
          refine lv_iconst (v := 1) hx hb dX12_score_43 rfl ?_
          refine lv_goto (tgt := 48) hx hb dX12_score_44 rfl ?_
          exact kM15 ls _ _ (lv_sub hl [0, 1, 2] rfl) hR hS
    refine lv_if_eq (tgt := 26) hx hb dX12_score_19 rfl (fun hc => ?_) (fun hc => ?_)
    · try simp only [if_pos hc] at kM12
      refine lv_iconst (v := 0) hx hb dX12_score_26 rfl ?_
      exact kM12 ls _ _ (lv_sub hl [0, 1, 2] rfl) hR hS
    · try simp only [if_neg hc] at kM12
      refine lv_iconst (v := 1) hx hb dX12_score_22 rfl ?_
      refine lv_goto (tgt := 27) hx hb dX12_score_23 rfl ?_
      exact kM12 ls _ _ (lv_sub hl [0, 1, 2] rfl) hR hS
def f_X12_isSaid_39 (k5 : Int32 → Int32 → Int32 → Int32 → Option Int32) (x : Nat) (h : XH) (v1 : Int32) (v2 : Int32) (v4 : Int32) (s0 : Int32) : Option Int32 := k5 v1 v2 s0 (v4 + 1)
def f_X12_isSaid_34 (k5 : Int32 → Int32 → Int32 → Int32 → Option Int32) (x : Nat) (h : XH) (v1 : Int32) (v2 : Int32) (v4 : Int32) : Option Int32 := f_X12_isSaid_39 k5 x h v1 v2 v4 1
def f_X12_isSaid_5 (x : Nat) (h : XH) : Nat → Int32 → Int32 → Int32 → Int32 → Option Int32
  | 0, _, _, _, _ => none
  | n + 1, v1, v2, v3, v4 => Option.bind (f_X12_of x h v1 2) (fun v_1 => if v_1 ≤ v4 then if x_isb v3 = true then some v3 else none else if v3 = 0 then Option.bind (f_X12_of x h v1 (29 + v4)) (fun v_3 => x_let ((if v_3 = v2 then 1 else 0) : Int32) (fun t5 => f_X12_isSaid_5 x h n v1 v2 t5 (v4 + 1))) else f_X12_isSaid_34 (f_X12_isSaid_5 x h n) x h v1 v2 v4)
def f_X12_isSaid (x : Nat) (h : XH) (v1 : Int32) (v2 : Int32) : Option Int32 := f_X12_isSaid_5 x h x_FU v1 v2 0 0
set_option maxRecDepth 20000 in
theorem B_X12_isSaid_39 {p : Program} {l : Launch} {e : Env} {s : State} {m : MethodId} {args : Array Value} {below : List Frame} {meth : Method} {c : Code} {O : XO} {K : XK} {h : XH} {r : Int32}  {k5 : Int32 → Int32 → Int32 → Int32 → Option Int32} (C : x_C p s m args meth c O cX12_isSaid 5 RX12 (some .boolean)) (hk5 : ∀ (ls : Array Slot) (H : Heap) (locs : List Loc) (v1 : Int32) (v2 : Int32) (v3 : Int32) (v4 : Int32), lv_has ls 5 [(0, .ref (oX O + 64)), (1, .int v1), (2, .int v2), (3, .int v3), (4, .int v4)] → x_R O K h H → va_S (oA O) s.heap H locs → k5 v1 v2 v3 v4 = some r → W p l e (x_rm 1 22) s m args below meth c H locs 0 0 (MQ below (x_Qc O K h (some (.int r))) args s 0 0 (oA O)) (F0 m 5 ls []))  (ls : Array Slot) (H : Heap) (locs : List Loc) (v1 : Int32) (v2 : Int32) (v4 : Int32) (s0 : Int32) (hl : lv_has ls 5 [(0, .ref (oX O + 64)), (1, .int v1), (2, .int v2), (4, .int v4)]) (hR : x_R O K h H) (hS : va_S (oA O) s.heap H locs) (hf : f_X12_isSaid_39 k5 (oX O) h v1 v2 v4 s0 = some r) : W p l e (x_rm 1 22) s m args below meth c H locs 0 0 (MQ below (x_Qc O K h (some (.int r))) args s 0 0 (oA O)) (F0 m 39 ls [.int s0]) := by
  have hx := C.1
  have hb := C.2.1
  rw [f_X12_isSaid_39] at hf
  refine lv_istore_n (lv' := [(3, _), (0, _), (1, _), (2, _), (4, _)]) hx hb dX12_isSaid_39 rfl hl (Nat.le_of_ble_eq_true rfl) rfl (fun ls hl => ?_)
  refine lv_iinc (k := 4) (v := _ + 1) (lv' := [(4, _), (3, _), (0, _), (1, _), (2, _)]) hx hb dX12_isSaid_40 hl rfl (x_inc 1 1 rfl _) (Nat.le_of_ble_eq_true rfl) rfl (fun ls hl => ?_)
  refine lv_goto (tgt := 5) hx hb dX12_isSaid_43 rfl ?_
  exact hk5 ls _ _ _ _ _ _  (lv_sub hl [2, 3, 4, 1, 0] rfl) hR hS hf
set_option maxRecDepth 20000 in
theorem B_X12_isSaid_34 {p : Program} {l : Launch} {e : Env} {s : State} {m : MethodId} {args : Array Value} {below : List Frame} {meth : Method} {c : Code} {O : XO} {K : XK} {h : XH} {r : Int32}  {k5 : Int32 → Int32 → Int32 → Int32 → Option Int32} (C : x_C p s m args meth c O cX12_isSaid 5 RX12 (some .boolean)) (hk5 : ∀ (ls : Array Slot) (H : Heap) (locs : List Loc) (v1 : Int32) (v2 : Int32) (v3 : Int32) (v4 : Int32), lv_has ls 5 [(0, .ref (oX O + 64)), (1, .int v1), (2, .int v2), (3, .int v3), (4, .int v4)] → x_R O K h H → va_S (oA O) s.heap H locs → k5 v1 v2 v3 v4 = some r → W p l e (x_rm 1 22) s m args below meth c H locs 0 0 (MQ below (x_Qc O K h (some (.int r))) args s 0 0 (oA O)) (F0 m 5 ls []))  (ls : Array Slot) (H : Heap) (locs : List Loc) (v1 : Int32) (v2 : Int32) (v4 : Int32) (hl : lv_has ls 5 [(0, .ref (oX O + 64)), (1, .int v1), (2, .int v2), (4, .int v4)]) (hR : x_R O K h H) (hS : va_S (oA O) s.heap H locs) (hf : f_X12_isSaid_34 k5 (oX O) h v1 v2 v4 = some r) : W p l e (x_rm 1 22) s m args below meth c H locs 0 0 (MQ below (x_Qc O K h (some (.int r))) args s 0 0 (oA O)) (F0 m 34 ls []) := by
  have hx := C.1
  have hb := C.2.1
  rw [f_X12_isSaid_34] at hf
  refine lv_iconst (v := 1) hx hb dX12_isSaid_34 rfl ?_
  refine lv_goto (tgt := 39) hx hb dX12_isSaid_35 rfl ?_
  exact B_X12_isSaid_39  C hk5  ls _ _ _ _ _ _  (lv_sub hl [0, 1, 2, 3] rfl) hR hS hf
set_option maxRecDepth 20000 in
theorem B_X12_isSaid_5 {p : Program} {l : Launch} {e : Env} {s : State} {m : MethodId} {args : Array Value} {below : List Frame} {meth : Method} {c : Code} {O : XO} {K : XK} {h : XH} {r : Int32}   (C : x_C p s m args meth c O cX12_isSaid 5 RX12 (some .boolean))   : ∀ (n : Nat) (ls : Array Slot) (H : Heap) (locs : List Loc) (v1 : Int32) (v2 : Int32) (v3 : Int32) (v4 : Int32) (hl : lv_has ls 5 [(0, .ref (oX O + 64)), (1, .int v1), (2, .int v2), (3, .int v3), (4, .int v4)]) (hR : x_R O K h H) (hS : va_S (oA O) s.heap H locs) (hf : f_X12_isSaid_5 (oX O) h n v1 v2 v3 v4 = some r), W p l e (x_rm 1 22) s m args below meth c H locs 0 0 (MQ below (x_Qc O K h (some (.int r))) args s 0 0 (oA O)) (F0 m 5 ls []) := by
  have hx := C.1
  have hb := C.2.1
  intro n
  induction n with
  | zero =>
    intro ls H locs v1 v2 v3 v4 hl hR hS hf
    rw [f_X12_isSaid_5] at hf
    cases hf
  | succ n ih =>
    intro ls H locs v1 v2 v3 v4 hl hR hS hf
    rw [f_X12_isSaid_5] at hf
    refine lv_iload hx hb dX12_isSaid_5 (lv_at hl 4 rfl) ?_
    refine lv_aload_n hx hb dX12_isSaid_7 rfl (lv_at hl 0 rfl) ?_
    refine lv_iload_n hx hb dX12_isSaid_8 rfl (lv_at hl 1 rfl) ?_
    refine lv_iconst (v := 2) hx hb dX12_isSaid_9 rfl ?_
    obtain ⟨v_1, ev_1, hf⟩ := x_bd hf
    refine x_cVi2 C hR hS (S_X12_of  ev_1) (x_k hR 64 rfl) (by decide) rfl mf_X12_of tw_1806 (Nat.le_of_ble_eq_true rfl) (Nat.le_of_ble_eq_true rfl) hl.1 (Nat.le_of_ble_eq_true rfl) dX12_isSaid_10 ⟨Nat.le_refl _, Nat.le_refl _⟩ (fun H locs hR hS => ?_)
    refine lv_icmp_ge (tgt := 46) hx hb dX12_isSaid_13 rfl (fun hc => ?_) (fun hc => ?_)
    · have hf := x_ip hc hf
      refine lv_iload_n hx hb dX12_isSaid_46 rfl (lv_at hl 3 rfl) ?_
      obtain ⟨g2, hf⟩ := x_gd hf
      cases hf
      exact x_zret C hR hS (x_isb_of g2) dX12_isSaid_47
    · have hf := x_in hc hf
      refine lv_iload_n hx hb dX12_isSaid_16 rfl (lv_at hl 3 rfl) ?_
      refine lv_if_ne (tgt := 34) hx hb dX12_isSaid_17 rfl (fun hc => ?_) (fun hc => ?_)
      · have hf := x_in hc hf
        exact B_X12_isSaid_34  C ih  ls _ _ _ _ _  (lv_sub hl [0, 1, 2, 4] rfl) hR hS hf
      · have hf := x_ip hc hf
        refine lv_aload_n hx hb dX12_isSaid_20 rfl (lv_at hl 0 rfl) ?_
        refine lv_iload_n hx hb dX12_isSaid_21 rfl (lv_at hl 1 rfl) ?_
        refine lv_bipush (v := 29) hx hb dX12_isSaid_22 rfl ?_
        refine lv_iload hx hb dX12_isSaid_24 (lv_at hl 4 rfl) ?_
        refine lv_iadd hx hb dX12_isSaid_26 ?_
        obtain ⟨v_3, ev_3, hf⟩ := x_bd hf
        refine x_cVi2 C hR hS (S_X12_of  ev_3) (x_k hR 64 rfl) (by decide) rfl mf_X12_of tw_1806 (Nat.le_of_ble_eq_true rfl) (Nat.le_of_ble_eq_true rfl) hl.1 (Nat.le_of_ble_eq_true rfl) dX12_isSaid_27 ⟨Nat.le_refl _, Nat.le_refl _⟩ (fun H locs hR hS => ?_)
        refine lv_iload_n hx hb dX12_isSaid_30 rfl (lv_at hl 2 rfl) ?_
        have kM4 : ∀ (ls : Array Slot) (H : Heap) (locs : List Loc), lv_has ls 5 [(0, .ref (oX O + 64)), (1, .int v1), (2, .int v2), (4, .int v4)] → x_R O K h H → va_S (oA O) s.heap H locs → W p l e (x_rm 1 22) s m args below meth c H locs 0 0 (MQ below (x_Qc O K h (some (.int r))) args s 0 0 (oA O)) (F0 m 39 ls [.int (if v_3 = v2 then 1 else 0)]) := by
          intro ls H locs hl hR hS
          obtain ⟨t5, et5, hf⟩ := x_lt hf
          refine x_nmi et5 ?_
          refine lv_istore_n (lv' := [(3, _), (0, _), (1, _), (2, _), (4, _)]) hx hb dX12_isSaid_39 rfl hl (Nat.le_of_ble_eq_true rfl) rfl (fun ls hl => ?_)
          refine lv_iinc (k := 4) (v := _ + 1) (lv' := [(4, _), (3, _), (0, _), (1, _), (2, _)]) hx hb dX12_isSaid_40 hl rfl (x_inc 1 1 rfl _) (Nat.le_of_ble_eq_true rfl) rfl (fun ls hl => ?_)
          refine lv_goto (tgt := 5) hx hb dX12_isSaid_43 rfl ?_
          exact ih ls _ _ _ _ _ _  (lv_sub hl [2, 3, 4, 1, 0] rfl) hR hS hf
        refine lv_icmp_ne (tgt := 38) hx hb dX12_isSaid_31 rfl (fun hc => ?_) (fun hc => ?_)
        · try simp only [if_neg hc] at kM4
          refine lv_iconst (v := 0) hx hb dX12_isSaid_38 rfl ?_
          exact kM4 ls _ _ (lv_sub hl [0, 1, 2, 4] rfl) hR hS
        · try simp only [if_pos hc] at kM4
          refine lv_iconst (v := 1) hx hb dX12_isSaid_34 rfl ?_
          refine lv_goto (tgt := 39) hx hb dX12_isSaid_35 rfl ?_
          exact kM4 ls _ _ (lv_sub hl [0, 1, 2, 4] rfl) hR hS
set_option maxRecDepth 20000 in
theorem S_X12_isSaid {l : Launch} {O : XO} {K : XK} {h : XH} {v1 : Int32} {v2 : Int32}  {r : Int32}  (hf : f_X12_isSaid (oX O) h v1 v2 = some r) : x_M l O K yX12_isSaid cX12_isSaid 5 (some .boolean) 1 22 h [.ref (oX O + 64), .int v1, .int v2] (some (.int r)) h := by
  refine x_enter (by decide) (Nat.le_of_ble_eq_true rfl) (fun p e s m args below meth c C hR ls hl => ?_)
  have hS : va_S (oA O) s.heap s.heap [] := va_S.rf
  have hx := C.1
  have hb := C.2.1
  have hl : lv_has ls 5 [(0, .ref (oX O + 64)), (1, .int v1), (2, .int v2)] := hl
  rw [f_X12_isSaid] at hf
  refine lv_iconst (v := 0) hx hb dX12_isSaid_0 rfl ?_
  refine lv_istore_n (lv' := [(3, _), (0, _), (1, _), (2, _)]) hx hb dX12_isSaid_1 rfl hl (Nat.le_of_ble_eq_true rfl) rfl (fun ls hl => ?_)
  refine lv_iconst (v := 0) hx hb dX12_isSaid_2 rfl ?_
  refine lv_istore (lv' := [(4, _), (3, _), (0, _), (1, _), (2, _)]) hx hb dX12_isSaid_3 hl (Nat.le_of_ble_eq_true rfl) rfl (fun ls hl => ?_)
  exact B_X12_isSaid_5  C  x_FU ls _ _ _ _ _ _  (lv_sub hl [2, 3, 4, 1, 0] rfl) hR hS hf
def f_X12_lackOf_49 (k5 : Int32 → Int32 → Int32 → Option Int32) (x : Nat) (h : XH) (v1 : Int32) (v3 : Int32) (v4 : Int32) : Option Int32 := k5 v1 v3 (v4 + 1)
def f_X12_lackOf_5 (x : Nat) (h : XH) : Nat → Int32 → Int32 → Int32 → Option Int32
  | 0, _, _, _ => none
  | n + 1, v1, v3, v4 => Option.bind (f_X12_of x h v1 2) (fun v_1 => if v_1 ≤ v4 then some (-1) else Option.bind (f_X12_cardOf x h v1 v4) (fun v_2 => Option.bind (f_X12_isSaid x h v1 v_2) (fun v_3 => if v_3 = 0 then if v3 = 0 then Option.bind (f_X12_cardOf x h v1 v4) (fun v_4 => some v_4) else f_X12_lackOf_49 (f_X12_lackOf_5 x h n) x h v1 (v3 + (-1)) v4 else f_X12_lackOf_49 (f_X12_lackOf_5 x h n) x h v1 v3 v4)))
def f_X12_lackOf (x : Nat) (h : XH) (v1 : Int32) (v2 : Int32) : Option Int32 := f_X12_lackOf_5 x h x_FU v1 v2 0
set_option maxRecDepth 20000 in
theorem B_X12_lackOf_49 {p : Program} {l : Launch} {e : Env} {s : State} {m : MethodId} {args : Array Value} {below : List Frame} {meth : Method} {c : Code} {O : XO} {K : XK} {h : XH} {r : Int32}  {k5 : Int32 → Int32 → Int32 → Option Int32} (C : x_C p s m args meth c O cX12_lackOf 5 RX12 (some .int)) (hk5 : ∀ (ls : Array Slot) (H : Heap) (locs : List Loc) (v1 : Int32) (v3 : Int32) (v4 : Int32), lv_has ls 5 [(0, .ref (oX O + 64)), (1, .int v1), (3, .int v3), (4, .int v4)] → x_R O K h H → va_S (oA O) s.heap H locs → k5 v1 v3 v4 = some r → W p l e (x_rm 2 46) s m args below meth c H locs 0 0 (MQ below (x_Qc O K h (some (.int r))) args s 0 0 (oA O)) (F0 m 5 ls []))  (ls : Array Slot) (H : Heap) (locs : List Loc) (v1 : Int32) (v3 : Int32) (v4 : Int32) (hl : lv_has ls 5 [(0, .ref (oX O + 64)), (1, .int v1), (3, .int v3), (4, .int v4)]) (hR : x_R O K h H) (hS : va_S (oA O) s.heap H locs) (hf : f_X12_lackOf_49 k5 (oX O) h v1 v3 v4 = some r) : W p l e (x_rm 2 46) s m args below meth c H locs 0 0 (MQ below (x_Qc O K h (some (.int r))) args s 0 0 (oA O)) (F0 m 49 ls []) := by
  have hx := C.1
  have hb := C.2.1
  rw [f_X12_lackOf_49] at hf
  refine lv_iinc (k := 3) (v := _ + 1) (lv' := [(4, _), (0, _), (1, _), (3, _)]) hx hb dX12_lackOf_49 hl rfl (x_inc 1 1 rfl _) (Nat.le_of_ble_eq_true rfl) rfl (fun ls hl => ?_)
  refine lv_goto (tgt := 5) hx hb dX12_lackOf_52 rfl ?_
  exact hk5 ls _ _ _ _ _  (lv_sub hl [1, 2, 3, 0] rfl) hR hS hf
set_option maxRecDepth 20000 in
theorem B_X12_lackOf_5 {p : Program} {l : Launch} {e : Env} {s : State} {m : MethodId} {args : Array Value} {below : List Frame} {meth : Method} {c : Code} {O : XO} {K : XK} {h : XH} {r : Int32}   (C : x_C p s m args meth c O cX12_lackOf 5 RX12 (some .int))   : ∀ (n : Nat) (ls : Array Slot) (H : Heap) (locs : List Loc) (v1 : Int32) (v3 : Int32) (v4 : Int32) (hl : lv_has ls 5 [(0, .ref (oX O + 64)), (1, .int v1), (3, .int v3), (4, .int v4)]) (hR : x_R O K h H) (hS : va_S (oA O) s.heap H locs) (hf : f_X12_lackOf_5 (oX O) h n v1 v3 v4 = some r), W p l e (x_rm 2 46) s m args below meth c H locs 0 0 (MQ below (x_Qc O K h (some (.int r))) args s 0 0 (oA O)) (F0 m 5 ls []) := by
  have hx := C.1
  have hb := C.2.1
  intro n
  induction n with
  | zero =>
    intro ls H locs v1 v3 v4 hl hR hS hf
    rw [f_X12_lackOf_5] at hf
    cases hf
  | succ n ih =>
    intro ls H locs v1 v3 v4 hl hR hS hf
    rw [f_X12_lackOf_5] at hf
    refine lv_iload hx hb dX12_lackOf_5 (lv_at hl 3 rfl) ?_
    refine lv_aload_n hx hb dX12_lackOf_7 rfl (lv_at hl 0 rfl) ?_
    refine lv_iload_n hx hb dX12_lackOf_8 rfl (lv_at hl 1 rfl) ?_
    refine lv_iconst (v := 2) hx hb dX12_lackOf_9 rfl ?_
    obtain ⟨v_1, ev_1, hf⟩ := x_bd hf
    refine x_cVi2 C hR hS (S_X12_of  ev_1) (x_k hR 64 rfl) (by decide) rfl mf_X12_of tw_1806 (Nat.le_of_ble_eq_true rfl) (Nat.le_of_ble_eq_true rfl) hl.1 (Nat.le_of_ble_eq_true rfl) dX12_lackOf_10 ⟨Nat.le_refl _, Nat.le_refl _⟩ (fun H locs hR hS => ?_)
    refine lv_icmp_ge (tgt := 55) hx hb dX12_lackOf_13 rfl (fun hc => ?_) (fun hc => ?_)
    · have hf := x_ip hc hf
      refine lv_iconst (v := (-1)) hx hb dX12_lackOf_55 rfl ?_
      cases hf
      exact x_iret C hR hS dX12_lackOf_56
    · have hf := x_in hc hf
      refine lv_aload_n hx hb dX12_lackOf_16 rfl (lv_at hl 0 rfl) ?_
      refine lv_iload_n hx hb dX12_lackOf_17 rfl (lv_at hl 1 rfl) ?_
      refine lv_aload_n hx hb dX12_lackOf_18 rfl (lv_at hl 0 rfl) ?_
      refine lv_iload_n hx hb dX12_lackOf_19 rfl (lv_at hl 1 rfl) ?_
      refine lv_iload hx hb dX12_lackOf_20 (lv_at hl 3 rfl) ?_
      obtain ⟨v_2, ev_2, hf⟩ := x_bd hf
      refine x_cVi2 C hR hS (S_X12_cardOf  ev_2) (x_k hR 64 rfl) (by decide) rfl mf_X12_cardOf tw_1810 (Nat.le_of_ble_eq_true rfl) (Nat.le_of_ble_eq_true rfl) hl.1 (Nat.le_of_ble_eq_true rfl) dX12_lackOf_22 ⟨Nat.le_refl _, Nat.le_refl _⟩ (fun H locs hR hS => ?_)
      obtain ⟨v_3, ev_3, hf⟩ := x_bd hf
      refine x_cVi2 C hR hS (S_X12_isSaid  ev_3) (x_k hR 64 rfl) (by decide) rfl mf_X12_isSaid tw_1999 (Nat.le_of_ble_eq_true rfl) (Nat.le_of_ble_eq_true rfl) hl.1 (Nat.le_of_ble_eq_true rfl) dX12_lackOf_25 ⟨Nat.le_refl _, Nat.le_refl _⟩ (fun H locs hR hS => ?_)
      refine lv_if_eq (tgt := 34) hx hb dX12_lackOf_28 rfl (fun hc => ?_) (fun hc => ?_)
      · have hf := x_ip hc hf
        refine lv_iload_n hx hb dX12_lackOf_34 rfl (lv_at hl 2 rfl) ?_
        refine lv_if_ne (tgt := 46) hx hb dX12_lackOf_35 rfl (fun hc => ?_) (fun hc => ?_)
        · have hf := x_in hc hf
          refine lv_iinc (k := 2) (v := _ + (-1)) (lv' := [(3, _), (0, _), (1, _), (4, _)]) hx hb dX12_lackOf_46 hl rfl (x_inc (-1) (-1) rfl _) (Nat.le_of_ble_eq_true rfl) rfl (fun ls hl => ?_)
          exact B_X12_lackOf_49  C ih  ls _ _ _ _ _  (lv_sub hl [1, 2, 0, 3] rfl) hR hS hf
        · have hf := x_ip hc hf
          refine lv_aload_n hx hb dX12_lackOf_38 rfl (lv_at hl 0 rfl) ?_
          refine lv_iload_n hx hb dX12_lackOf_39 rfl (lv_at hl 1 rfl) ?_
          refine lv_iload hx hb dX12_lackOf_40 (lv_at hl 3 rfl) ?_
          obtain ⟨v_4, ev_4, hf⟩ := x_bd hf
          refine x_cVi2 C hR hS (S_X12_cardOf  ev_4) (x_k hR 64 rfl) (by decide) rfl mf_X12_cardOf tw_1810 (Nat.le_of_ble_eq_true rfl) (Nat.le_of_ble_eq_true rfl) hl.1 (Nat.le_of_ble_eq_true rfl) dX12_lackOf_42 ⟨Nat.le_refl _, Nat.le_refl _⟩ (fun H locs hR hS => ?_)
          cases hf
          exact x_iret C hR hS dX12_lackOf_45
      · have hf := x_in hc hf
        refine lv_goto (tgt := 49) hx hb dX12_lackOf_31 rfl ?_
        exact B_X12_lackOf_49  C ih  ls _ _ _ _ _  (lv_sub hl [0, 1, 2, 3] rfl) hR hS hf
set_option maxRecDepth 20000 in
theorem S_X12_lackOf {l : Launch} {O : XO} {K : XK} {h : XH} {v1 : Int32} {v2 : Int32}  {r : Int32}  (hf : f_X12_lackOf (oX O) h v1 v2 = some r) : x_M l O K yX12_lackOf cX12_lackOf 5 (some .int) 2 46 h [.ref (oX O + 64), .int v1, .int v2] (some (.int r)) h := by
  refine x_enter (by decide) (Nat.le_of_ble_eq_true rfl) (fun p e s m args below meth c C hR ls hl => ?_)
  have hS : va_S (oA O) s.heap s.heap [] := va_S.rf
  have hx := C.1
  have hb := C.2.1
  have hl : lv_has ls 5 [(0, .ref (oX O + 64)), (1, .int v1), (2, .int v2)] := hl
  rw [f_X12_lackOf] at hf
  refine lv_iload_n hx hb dX12_lackOf_0 rfl (lv_at hl 2 rfl) ?_
  refine lv_istore_n (lv' := [(3, _), (0, _), (1, _), (2, _)]) hx hb dX12_lackOf_1 rfl hl (Nat.le_of_ble_eq_true rfl) rfl (fun ls hl => ?_)
  refine lv_iconst (v := 0) hx hb dX12_lackOf_2 rfl ?_
  refine lv_istore (lv' := [(4, _), (3, _), (0, _), (1, _), (2, _)]) hx hb dX12_lackOf_3 hl (Nat.le_of_ble_eq_true rfl) rfl (fun ls hl => ?_)
  exact B_X12_lackOf_5  C  x_FU ls _ _ _ _ _  (lv_sub hl [2, 3, 1, 0] rfl) hR hS hf
def f_X12_lackMany_4 (x : Nat) (h : XH) : Nat → Int32 → Int32 → Int32 → Option Int32
  | 0, _, _, _ => none
  | n + 1, v1, v2, v3 => Option.bind (f_X12_of x h v1 2) (fun v_1 => if v_1 ≤ v3 then some v2 else Option.bind (f_X12_cardOf x h v1 v3) (fun v_2 => Option.bind (f_X12_isSaid x h v1 v_2) (fun v_3 => x_let ((v2 + (if v_3 = 0 then 1 else 0)) : Int32) (fun t5 => f_X12_lackMany_4 x h n v1 t5 (v3 + 1)))))
def f_X12_lackMany (x : Nat) (h : XH) (v1 : Int32) : Option Int32 := f_X12_lackMany_4 x h x_FU v1 0 0
set_option maxRecDepth 20000 in
theorem B_X12_lackMany_4 {p : Program} {l : Launch} {e : Env} {s : State} {m : MethodId} {args : Array Value} {below : List Frame} {meth : Method} {c : Code} {O : XO} {K : XK} {h : XH} {r : Int32}   (C : x_C p s m args meth c O cX12_lackMany 4 RX12 (some .int))   : ∀ (n : Nat) (ls : Array Slot) (H : Heap) (locs : List Loc) (v1 : Int32) (v2 : Int32) (v3 : Int32) (hl : lv_has ls 4 [(0, .ref (oX O + 64)), (1, .int v1), (2, .int v2), (3, .int v3)]) (hR : x_R O K h H) (hS : va_S (oA O) s.heap H locs) (hf : f_X12_lackMany_4 (oX O) h n v1 v2 v3 = some r), W p l e (x_rm 2 46) s m args below meth c H locs 0 0 (MQ below (x_Qc O K h (some (.int r))) args s 0 0 (oA O)) (F0 m 4 ls []) := by
  have hx := C.1
  have hb := C.2.1
  intro n
  induction n with
  | zero =>
    intro ls H locs v1 v2 v3 hl hR hS hf
    rw [f_X12_lackMany_4] at hf
    cases hf
  | succ n ih =>
    intro ls H locs v1 v2 v3 hl hR hS hf
    rw [f_X12_lackMany_4] at hf
    refine lv_iload_n hx hb dX12_lackMany_4 rfl (lv_at hl 3 rfl) ?_
    refine lv_aload_n hx hb dX12_lackMany_5 rfl (lv_at hl 0 rfl) ?_
    refine lv_iload_n hx hb dX12_lackMany_6 rfl (lv_at hl 1 rfl) ?_
    refine lv_iconst (v := 2) hx hb dX12_lackMany_7 rfl ?_
    obtain ⟨v_1, ev_1, hf⟩ := x_bd hf
    refine x_cVi2 C hR hS (S_X12_of  ev_1) (x_k hR 64 rfl) (by decide) rfl mf_X12_of tw_1806 (Nat.le_of_ble_eq_true rfl) (Nat.le_of_ble_eq_true rfl) hl.1 (Nat.le_of_ble_eq_true rfl) dX12_lackMany_8 ⟨Nat.le_refl _, Nat.le_refl _⟩ (fun H locs hR hS => ?_)
    refine lv_icmp_ge (tgt := 42) hx hb dX12_lackMany_11 rfl (fun hc => ?_) (fun hc => ?_)
    · have hf := x_ip hc hf
      refine lv_iload_n hx hb dX12_lackMany_42 rfl (lv_at hl 2 rfl) ?_
      cases hf
      exact x_iret C hR hS dX12_lackMany_43
    · have hf := x_in hc hf
      refine lv_iload_n hx hb dX12_lackMany_14 rfl (lv_at hl 2 rfl) ?_
      refine lv_aload_n hx hb dX12_lackMany_15 rfl (lv_at hl 0 rfl) ?_
      refine lv_iload_n hx hb dX12_lackMany_16 rfl (lv_at hl 1 rfl) ?_
      refine lv_aload_n hx hb dX12_lackMany_17 rfl (lv_at hl 0 rfl) ?_
      refine lv_iload_n hx hb dX12_lackMany_18 rfl (lv_at hl 1 rfl) ?_
      refine lv_iload_n hx hb dX12_lackMany_19 rfl (lv_at hl 3 rfl) ?_
      obtain ⟨v_2, ev_2, hf⟩ := x_bd hf
      refine x_cVi2 C hR hS (S_X12_cardOf  ev_2) (x_k hR 64 rfl) (by decide) rfl mf_X12_cardOf tw_1810 (Nat.le_of_ble_eq_true rfl) (Nat.le_of_ble_eq_true rfl) hl.1 (Nat.le_of_ble_eq_true rfl) dX12_lackMany_20 ⟨Nat.le_refl _, Nat.le_refl _⟩ (fun H locs hR hS => ?_)
      obtain ⟨v_3, ev_3, hf⟩ := x_bd hf
      refine x_cVi2 C hR hS (S_X12_isSaid  ev_3) (x_k hR 64 rfl) (by decide) rfl mf_X12_isSaid tw_1999 (Nat.le_of_ble_eq_true rfl) (Nat.le_of_ble_eq_true rfl) hl.1 (Nat.le_of_ble_eq_true rfl) dX12_lackMany_23 ⟨Nat.le_refl _, Nat.le_refl _⟩ (fun H locs hR hS => ?_)
      have kM4 : ∀ (ls : Array Slot) (H : Heap) (locs : List Loc), lv_has ls 4 [(0, .ref (oX O + 64)), (1, .int v1), (3, .int v3)] → x_R O K h H → va_S (oA O) s.heap H locs → W p l e (x_rm 2 46) s m args below meth c H locs 0 0 (MQ below (x_Qc O K h (some (.int r))) args s 0 0 (oA O)) (F0 m 34 ls [.int (if v_3 = 0 then 1 else 0), .int v2]) := by
        intro ls H locs hl hR hS
        refine lv_iadd hx hb dX12_lackMany_34 ?_
        obtain ⟨t5, et5, hf⟩ := x_lt hf
        refine x_nmi et5 ?_
        refine lv_istore_n (lv' := [(2, _), (0, _), (1, _), (3, _)]) hx hb dX12_lackMany_35 rfl hl (Nat.le_of_ble_eq_true rfl) rfl (fun ls hl => ?_)
        refine lv_iinc (k := 3) (v := _ + 1) (lv' := [(3, _), (2, _), (0, _), (1, _)]) hx hb dX12_lackMany_36 hl rfl (x_inc 1 1 rfl _) (Nat.le_of_ble_eq_true rfl) rfl (fun ls hl => ?_)
        refine lv_goto (tgt := 4) hx hb dX12_lackMany_39 rfl ?_
        exact ih ls _ _ _ _ _  (lv_sub hl [2, 3, 1, 0] rfl) hR hS hf
      refine lv_if_eq (tgt := 33) hx hb dX12_lackMany_26 rfl (fun hc => ?_) (fun hc => ?_)
      · try simp only [if_pos hc] at kM4
        refine lv_iconst (v := 1) hx hb dX12_lackMany_33 rfl ?_
        exact kM4 ls _ _ (lv_sub hl [0, 1, 3] rfl) hR hS
      · try simp only [if_neg hc] at kM4
        refine lv_iconst (v := 0) hx hb dX12_lackMany_29 rfl ?_
        refine lv_goto (tgt := 34) hx hb dX12_lackMany_30 rfl ?_
        exact kM4 ls _ _ (lv_sub hl [0, 1, 3] rfl) hR hS
set_option maxRecDepth 20000 in
theorem S_X12_lackMany {l : Launch} {O : XO} {K : XK} {h : XH} {v1 : Int32}  {r : Int32}  (hf : f_X12_lackMany (oX O) h v1 = some r) : x_M l O K yX12_lackMany cX12_lackMany 4 (some .int) 2 46 h [.ref (oX O + 64), .int v1] (some (.int r)) h := by
  refine x_enter (by decide) (Nat.le_of_ble_eq_true rfl) (fun p e s m args below meth c C hR ls hl => ?_)
  have hS : va_S (oA O) s.heap s.heap [] := va_S.rf
  have hx := C.1
  have hb := C.2.1
  have hl : lv_has ls 4 [(0, .ref (oX O + 64)), (1, .int v1)] := hl
  rw [f_X12_lackMany] at hf
  refine lv_iconst (v := 0) hx hb dX12_lackMany_0 rfl ?_
  refine lv_istore_n (lv' := [(2, _), (0, _), (1, _)]) hx hb dX12_lackMany_1 rfl hl (Nat.le_of_ble_eq_true rfl) rfl (fun ls hl => ?_)
  refine lv_iconst (v := 0) hx hb dX12_lackMany_2 rfl ?_
  refine lv_istore_n (lv' := [(3, _), (2, _), (0, _), (1, _)]) hx hb dX12_lackMany_3 rfl hl (Nat.le_of_ble_eq_true rfl) rfl (fun ls hl => ?_)
  exact B_X12_lackMany_4  C  x_FU ls _ _ _ _ _  (lv_sub hl [2, 3, 1, 0] rfl) hR hS hf
def f_X12_lacks_57 (x : Nat) (h : XH) : Option (Int32 × XH) := some (0, h)
def f_X12_lacks (x : Nat) (h : XH) (v1 : Int32) (v2 : Int32) : Option (Int32 × XH) := x_let (x_i h (x + 64) 0 0) (fun h1 => Option.bind (f_X12_noPack x h1 v1) (fun v_2 => Option.bind (f_X12_throwsIf x h1 v_2 1) (fun q3 => if q3.1 = 0 then Option.bind (f_X12_isPut x q3.2 v1) (fun v_4 => Option.bind (f_X12_throwsIf x q3.2 (if v_4 = 0 then 1 else 0) 2) (fun q6 => if q6.1 = 0 then Option.bind (f_X12_throwsIf x q6.2 (if (-1) ≤ v2 then 0 else 1) 3) (fun q8 => if q8.1 = 0 then if 0 ≤ v2 then Option.bind (f_X12_lackOf x q8.2 v1 v2) (fun v_9 => some (v_9, q8.2)) else Option.bind (f_X12_lackMany x q8.2 v1) (fun v_10 => some (v_10, q8.2)) else f_X12_lacks_57 x q8.2) else f_X12_lacks_57 x q6.2)) else f_X12_lacks_57 x q3.2)))
set_option maxRecDepth 20000 in
theorem B_X12_lacks_57 {p : Program} {l : Launch} {e : Env} {s : State} {m : MethodId} {args : Array Value} {below : List Frame} {meth : Method} {c : Code} {O : XO} {K : XK} {r : Int32} {h' : XH}   (C : x_C p s m args meth c O cX12_lacks 3 RX12 (some .int))   (ls : Array Slot) (H : Heap) (locs : List Loc) (h : XH) (hl : lv_has ls 3 []) (hR : x_R O K h H) (hS : va_S (oA O) s.heap H locs) (hf : f_X12_lacks_57 (oX O) h = some (r, h')) : W p l e (x_rm 3 70) s m args below meth c H locs 0 0 (MQ below (x_Qc O K h' (some (.int r))) args s 0 0 (oA O)) (F0 m 57 ls []) := by
  have hx := C.1
  have hb := C.2.1
  rw [f_X12_lacks_57] at hf
  refine lv_iconst (v := 0) hx hb dX12_lacks_57 rfl ?_
  cases hf
  exact x_iret C hR hS dX12_lacks_58
set_option maxRecDepth 20000 in
theorem S_X12_lacks {l : Launch} {O : XO} {K : XK} {h : XH} {v1 : Int32} {v2 : Int32}  {r : Int32} {h' : XH}  (hf : f_X12_lacks (oX O) h v1 v2 = some (r, h')) : x_M l O K yX12_lacks cX12_lacks 3 (some .int) 3 70 h [.ref (oX O + 64), .int v1, .int v2] (some (.int r)) h' := by
  refine x_enter (by decide) (Nat.le_of_ble_eq_true rfl) (fun p e s m args below meth c C hR ls hl => ?_)
  have hS : va_S (oA O) s.heap s.heap [] := va_S.rf
  have hx := C.1
  have hb := C.2.1
  have hl : lv_has ls 3 [(0, .ref (oX O + 64)), (1, .int v1), (2, .int v2)] := hl
  rw [f_X12_lacks] at hf
  refine lv_aload_n hx hb dX12_lacks_0 rfl (lv_at hl 0 rfl) ?_
  refine lv_iconst (v := 0) hx hb dX12_lacks_1 rfl ?_
  obtain ⟨h1, eh1, hf⟩ := x_lt hf
  refine pf_12_0 C hR hS (x_k hR 64 rfl) tw_1543 dX12_lacks_2 (fun H locs hR hS => ?_)
  rw [← eh1] at hR
  refine lv_aload_n hx hb dX12_lacks_5 rfl (lv_at hl 0 rfl) ?_
  refine lv_aload_n hx hb dX12_lacks_6 rfl (lv_at hl 0 rfl) ?_
  refine lv_iload_n hx hb dX12_lacks_7 rfl (lv_at hl 1 rfl) ?_
  obtain ⟨v_2, ev_2, hf⟩ := x_bd hf
  refine x_cVi1 C hR hS (S_X12_noPack  ev_2) (x_k hR 64 rfl) (by decide) rfl mf_X12_noPack tw_1802 (Nat.le_of_ble_eq_true rfl) (Nat.le_of_ble_eq_true rfl) hl.1 (Nat.le_of_ble_eq_true rfl) dX12_lacks_8 ⟨Nat.le_refl _, Nat.le_refl _⟩ (fun H locs hR hS => ?_)
  refine lv_iconst (v := 1) hx hb dX12_lacks_11 rfl ?_
  obtain ⟨q3, eq3, hf⟩ := x_bd hf
  refine x_cVi2 C hR hS (S_X12_throwsIf  eq3) (x_k hR 64 rfl) (by decide) rfl mf_X12_throwsIf tw_1741 (Nat.le_of_ble_eq_true rfl) (Nat.le_of_ble_eq_true rfl) hl.1 (Nat.le_of_ble_eq_true rfl) dX12_lacks_12 ⟨Nat.le_refl _, Nat.le_refl _⟩ (fun H locs hR hS => ?_)
  refine lv_if_ne (tgt := 57) hx hb dX12_lacks_15 rfl (fun hc => ?_) (fun hc => ?_)
  · have hf := x_in hc hf
    exact B_X12_lacks_57  C   ls _ _ q3.2  (lv_sub hl [] rfl) hR hS hf
  · have hf := x_ip hc hf
    refine lv_aload_n hx hb dX12_lacks_18 rfl (lv_at hl 0 rfl) ?_
    refine lv_aload_n hx hb dX12_lacks_19 rfl (lv_at hl 0 rfl) ?_
    refine lv_iload_n hx hb dX12_lacks_20 rfl (lv_at hl 1 rfl) ?_
    obtain ⟨v_4, ev_4, hf⟩ := x_bd hf
    refine x_cVi1 C hR hS (S_X12_isPut  ev_4) (x_k hR 64 rfl) (by decide) rfl mf_X12_isPut tw_1818 (Nat.le_of_ble_eq_true rfl) (Nat.le_of_ble_eq_true rfl) hl.1 (Nat.le_of_ble_eq_true rfl) dX12_lacks_21 ⟨Nat.le_refl _, Nat.le_refl _⟩ (fun H locs hR hS => ?_)
    have kM5 : ∀ (ls : Array Slot) (H : Heap) (locs : List Loc), lv_has ls 3 [(0, .ref (oX O + 64)), (1, .int v1), (2, .int v2)] → x_R O K q3.2 H → va_S (oA O) s.heap H locs → W p l e (x_rm 3 70) s m args below meth c H locs 0 0 (MQ below (x_Qc O K h' (some (.int r))) args s 0 0 (oA O)) (F0 m 32 ls [.int (if v_4 = 0 then 1 else 0), .ref (oX O + 64)]) := by
      intro ls H locs hl hR hS
      refine lv_iconst (v := 2) hx hb dX12_lacks_32 rfl ?_
      obtain ⟨q6, eq6, hf⟩ := x_bd hf
      refine x_cVi2 C hR hS (S_X12_throwsIf  eq6) (x_k hR 64 rfl) (by decide) rfl mf_X12_throwsIf tw_1741 (Nat.le_of_ble_eq_true rfl) (Nat.le_of_ble_eq_true rfl) hl.1 (Nat.le_of_ble_eq_true rfl) dX12_lacks_33 ⟨Nat.le_refl _, Nat.le_refl _⟩ (fun H locs hR hS => ?_)
      refine lv_if_ne (tgt := 57) hx hb dX12_lacks_36 rfl (fun hc => ?_) (fun hc => ?_)
      · have hf := x_in hc hf
        exact B_X12_lacks_57  C   ls _ _ q6.2  (lv_sub hl [] rfl) hR hS hf
      · have hf := x_ip hc hf
        refine lv_aload_n hx hb dX12_lacks_39 rfl (lv_at hl 0 rfl) ?_
        refine lv_iload_n hx hb dX12_lacks_40 rfl (lv_at hl 2 rfl) ?_
        refine lv_iconst (v := (-1)) hx hb dX12_lacks_41 rfl ?_
        have kM7 : ∀ (ls : Array Slot) (H : Heap) (locs : List Loc), lv_has ls 3 [(0, .ref (oX O + 64)), (1, .int v1), (2, .int v2)] → x_R O K q6.2 H → va_S (oA O) s.heap H locs → W p l e (x_rm 3 70) s m args below meth c H locs 0 0 (MQ below (x_Qc O K h' (some (.int r))) args s 0 0 (oA O)) (F0 m 50 ls [.int (if (-1) ≤ v2 then 0 else 1), .ref (oX O + 64)]) := by
          intro ls H locs hl hR hS
          refine lv_iconst (v := 3) hx hb dX12_lacks_50 rfl ?_
          obtain ⟨q8, eq8, hf⟩ := x_bd hf
          refine x_cVi2 C hR hS (S_X12_throwsIf  eq8) (x_k hR 64 rfl) (by decide) rfl mf_X12_throwsIf tw_1741 (Nat.le_of_ble_eq_true rfl) (Nat.le_of_ble_eq_true rfl) hl.1 (Nat.le_of_ble_eq_true rfl) dX12_lacks_51 ⟨Nat.le_refl _, Nat.le_refl _⟩ (fun H locs hR hS => ?_)
          refine lv_if_eq (tgt := 59) hx hb dX12_lacks_54 rfl (fun hc => ?_) (fun hc => ?_)
          · have hf := x_ip hc hf
            refine lv_iload_n hx hb dX12_lacks_59 rfl (lv_at hl 2 rfl) ?_
            refine lv_if_ge (tgt := 71) hx hb dX12_lacks_60 rfl (fun hc => ?_) (fun hc => ?_)
            · have hf := x_ip hc hf
              refine lv_aload_n hx hb dX12_lacks_71 rfl (lv_at hl 0 rfl) ?_
              refine lv_iload_n hx hb dX12_lacks_72 rfl (lv_at hl 1 rfl) ?_
              refine lv_iload_n hx hb dX12_lacks_73 rfl (lv_at hl 2 rfl) ?_
              obtain ⟨v_9, ev_9, hf⟩ := x_bd hf
              refine x_cVi2 C hR hS (S_X12_lackOf  ev_9) (x_k hR 64 rfl) (by decide) rfl mf_X12_lackOf tw_2003 (Nat.le_of_ble_eq_true rfl) (Nat.le_of_ble_eq_true rfl) hl.1 (Nat.le_of_ble_eq_true rfl) dX12_lacks_74 ⟨Nat.le_refl _, Nat.le_refl _⟩ (fun H locs hR hS => ?_)
              cases hf
              exact x_iret C hR hS dX12_lacks_77
            · have hf := x_in hc hf
              refine lv_aload_n hx hb dX12_lacks_63 rfl (lv_at hl 0 rfl) ?_
              refine lv_iload_n hx hb dX12_lacks_64 rfl (lv_at hl 1 rfl) ?_
              obtain ⟨v_10, ev_10, hf⟩ := x_bd hf
              refine x_cVi1 C hR hS (S_X12_lackMany  ev_10) (x_k hR 64 rfl) (by decide) rfl mf_X12_lackMany tw_1995 (Nat.le_of_ble_eq_true rfl) (Nat.le_of_ble_eq_true rfl) hl.1 (Nat.le_of_ble_eq_true rfl) dX12_lacks_65 ⟨Nat.le_refl _, Nat.le_refl _⟩ (fun H locs hR hS => ?_)
              refine lv_goto (tgt := 77) hx hb dX12_lacks_68 rfl ?_
              cases hf
              exact x_iret C hR hS dX12_lacks_77
          · have hf := x_in hc hf
            exact B_X12_lacks_57  C   ls _ _ q8.2  (lv_sub hl [] rfl) hR hS hf
        refine lv_icmp_ge (tgt := 49) hx hb dX12_lacks_42 rfl (fun hc => ?_) (fun hc => ?_)
        · try simp only [if_pos hc] at kM7
          refine lv_iconst (v := 0) hx hb dX12_lacks_49 rfl ?_
          exact kM7 ls _ _ (lv_sub hl [0, 1, 2] rfl) hR hS
        · try simp only [if_neg hc] at kM7
          refine lv_iconst (v := 1) hx hb dX12_lacks_45 rfl ?_
          refine lv_goto (tgt := 50) hx hb dX12_lacks_46 rfl ?_
          exact kM7 ls _ _ (lv_sub hl [0, 1, 2] rfl) hR hS
    refine lv_if_ne (tgt := 31) hx hb dX12_lacks_24 rfl (fun hc => ?_) (fun hc => ?_)
    · try simp only [if_neg hc] at kM5
      refine lv_iconst (v := 0) hx hb dX12_lacks_31 rfl ?_
      exact kM5 ls _ _ (lv_sub hl [0, 1, 2] rfl) hR hS
    · try simp only [if_pos hc] at kM5
      refine lv_iconst (v := 1) hx hb dX12_lacks_27 rfl ?_
      refine lv_goto (tgt := 32) hx hb dX12_lacks_28 rfl ?_
      exact kM5 ls _ _ (lv_sub hl [0, 1, 2] rfl) hR hS
def f_X12_guesses_233 (k54 : XH → Int32 → Int32 → Int32 → Int32 → Int32 → Int32 → Int32 → Int32 → Option (XH)) (x : Nat) (h : XH) (v1 : Int32) (v2 : Int32) (v3 : Int32) (v4 : Int32) (v5 : Int32) (v6 : Int32) (v7 : Int32) (v8 : Int32) : Option (XH) := k54 h v1 v2 v3 v4 v5 v6 v7 (v8 + 1)
def f_X12_guesses_127 (k54 : XH → Int32 → Int32 → Int32 → Int32 → Int32 → Int32 → Int32 → Int32 → Option (XH)) (k77 : XH → Int32 → Int32 → Int32 → Int32 → Int32 → Int32 → Int32 → Int32 → Int32 → Int32 → Int32 → Int32 → Int32 → Option (XH)) (x : Nat) (h : XH) (v1 : Int32) (v2 : Int32) (v3 : Int32) (v4 : Int32) (v5 : Int32) (v6 : Int32) (v7 : Int32) (v8 : Int32) (v9 : Int32) (v10 : Int32) (v12 : Int32) (v13 : Int32) (s0 : Int32) : Option (XH) := if x_b v13 6 = true then x_let ((v9 ||| (x_shl 1 (h.1 (x + 73) v13.toNatClampNeg))) : Int32) (fun t14 => if x_b v13 6 = true then if x_b (h.1 (x + 73) v13.toNatClampNeg) 6 = true then if x_b v13 6 = true then Option.bind (f_X12_cardOf x h v2 (h.1 (x + 71) v13.toNatClampNeg)) (fun v_18 => x_let ((v10 + (if (h.1 (x + 72) (h.1 (x + 73) v13.toNatClampNeg).toNatClampNeg) = v_18 then 1 else 0)) : Int32) (fun t20 => k77 h v1 v2 v3 v4 v5 v6 v7 v8 t14 t20 s0 v12 (v13 + 1))) else none else none else none) else none
def f_X12_guesses_126 (k54 : XH → Int32 → Int32 → Int32 → Int32 → Int32 → Int32 → Int32 → Int32 → Option (XH)) (k77 : XH → Int32 → Int32 → Int32 → Int32 → Int32 → Int32 → Int32 → Int32 → Int32 → Int32 → Int32 → Int32 → Int32 → Option (XH)) (x : Nat) (h : XH) (v1 : Int32) (v2 : Int32) (v3 : Int32) (v4 : Int32) (v5 : Int32) (v6 : Int32) (v7 : Int32) (v8 : Int32) (v9 : Int32) (v10 : Int32) (v12 : Int32) (v13 : Int32) : Option (XH) := f_X12_guesses_127 k54 k77 x h v1 v2 v3 v4 v5 v6 v7 v8 v9 v10 v12 v13 0
def f_X12_guesses_77 (k54 : XH → Int32 → Int32 → Int32 → Int32 → Int32 → Int32 → Int32 → Int32 → Option (XH)) (x : Nat) : Nat → XH → Int32 → Int32 → Int32 → Int32 → Int32 → Int32 → Int32 → Int32 → Int32 → Int32 → Int32 → Int32 → Int32 → Option (XH)
  | 0, _, _, _, _, _, _, _, _, _, _, _, _, _, _ => none
  | n + 1, h, v1, v2, v3, v4, v5, v6, v7, v8, v9, v10, v11, v12, v13 => if v3 ≤ v13 then if v11 = 0 then f_X12_guesses_233 k54 x h v1 v2 v3 v4 v5 v6 v7 v8 else x_let (x_i h (x + 64) 21 ((h.1 (x + 64) 21) + 1)) (fun h5 => Option.bind (f_X12_of x h5 v2 2) (fun v_6 => Option.bind (f_X12_scored x h5 v1 v_6 (v5 + v10) (v6 - v3)) (fun q7 => x_let (x_i q7.2 (x + 64) 20 ((h5.1 (x + 64) 20) + q7.1)) (fun h8 => f_X12_guesses_233 k54 x h8 v1 v2 v3 v4 v5 v6 v7 v8)))) else if v4 = 0 then none else if x_b v13 6 = true then x_let (x_i h (x + 73) v13.toNatClampNeg (x_rem v12 v4)) (fun h11 => if v4 = 0 then none else if v11 = 0 then f_X12_guesses_126 k54 (f_X12_guesses_77 k54 x n) x h11 v1 v2 v3 v4 v5 v6 v7 v8 v9 v10 (v12 / v4) v13 else if x_b v13 6 = true then x_let ((if ((x_shr v9 (h11.1 (x + 73) v13.toNatClampNeg)) &&& 1) = 0 then 1 else 0) : Int32) (fun t23 => if x_b v13 6 = true then x_let ((v9 ||| (x_shl 1 (h11.1 (x + 73) v13.toNatClampNeg))) : Int32) (fun t25 => if x_b v13 6 = true then if x_b (h11.1 (x + 73) v13.toNatClampNeg) 6 = true then if x_b v13 6 = true then Option.bind (f_X12_cardOf x h11 v2 (h11.1 (x + 71) v13.toNatClampNeg)) (fun v_29 => x_let ((v10 + (if (h11.1 (x + 72) (h11.1 (x + 73) v13.toNatClampNeg).toNatClampNeg) = v_29 then 1 else 0)) : Int32) (fun t31 => f_X12_guesses_77 k54 x n h11 v1 v2 v3 v4 v5 v6 v7 v8 t25 t31 t23 (v12 / v4) (v13 + 1))) else none else none else none) else none) else none) else none
def f_X12_guesses_54 (x : Nat) : Nat → XH → Int32 → Int32 → Int32 → Int32 → Int32 → Int32 → Int32 → Int32 → Option (XH)
  | 0, _, _, _, _, _, _, _, _, _ => none
  | n + 1, h, v1, v2, v3, v4, v5, v6, v7, v8 => if v7 ≤ v8 then some h else f_X12_guesses_77 (f_X12_guesses_54 x n) x x_FU h v1 v2 v3 v4 v5 v6 v7 v8 0 0 1 v8 0
def f_X12_guesses_22 (x : Nat) : Nat → XH → Int32 → Int32 → Int32 → Int32 → Int32 → Int32 → Int32 → Int32 → Option (XH)
  | 0, _, _, _, _, _, _, _, _, _ => none
  | n + 1, h, v1, v2, v3, v4, v5, v6, v7, v8 => if v3 ≤ v8 then x_let (x_i h (x + 64) 20 0) (fun h3 => x_let (x_i h3 (x + 64) 21 0) (fun h4 => f_X12_guesses_54 x x_FU h4 v1 v2 v3 v4 v5 v6 v7 0)) else f_X12_guesses_22 x n h v1 v2 v3 v4 v5 v6 (v7 * v4) (v8 + 1)
def f_X12_guesses (x : Nat) (h : XH) (v1 : Int32) (v2 : Int32) (v3 : Int32) (v4 : Int32) : Option (XH) := Option.bind (f_X12_kindsOf x h v2 0) (fun v_1 => Option.bind (f_X12_kindsOf x h v2 1) (fun v_2 => f_X12_guesses_22 x x_FU h v1 v2 v3 v4 v_1 v_2 1 0))
set_option maxRecDepth 20000 in
theorem B_X12_guesses_233 {p : Program} {l : Launch} {e : Env} {s : State} {m : MethodId} {args : Array Value} {below : List Frame} {meth : Method} {c : Code} {O : XO} {K : XK} {h' : XH}  {k54 : XH → Int32 → Int32 → Int32 → Int32 → Int32 → Int32 → Int32 → Int32 → Option (XH)} (C : x_C p s m args meth c O cX12_guesses 14 RX12 none) (hk54 : ∀ (ls : Array Slot) (H : Heap) (locs : List Loc) (h : XH) (v1 : Int32) (v2 : Int32) (v3 : Int32) (v4 : Int32) (v5 : Int32) (v6 : Int32) (v7 : Int32) (v8 : Int32), lv_has ls 14 [(0, .ref (oX O + 64)), (1, .int v1), (2, .int v2), (3, .int v3), (4, .int v4), (5, .int v5), (6, .int v6), (7, .int v7), (8, .int v8)] → x_R O K h H → va_S (oA O) s.heap H locs → k54 h v1 v2 v3 v4 v5 v6 v7 v8 = some h' → W p l e (x_rm 7 171) s m args below meth c H locs 0 0 (MQ below (x_Qc O K h' none) args s 0 0 (oA O)) (F0 m 54 ls []))  (ls : Array Slot) (H : Heap) (locs : List Loc) (h : XH) (v1 : Int32) (v2 : Int32) (v3 : Int32) (v4 : Int32) (v5 : Int32) (v6 : Int32) (v7 : Int32) (v8 : Int32) (hl : lv_has ls 14 [(0, .ref (oX O + 64)), (1, .int v1), (2, .int v2), (3, .int v3), (4, .int v4), (5, .int v5), (6, .int v6), (7, .int v7), (8, .int v8)]) (hR : x_R O K h H) (hS : va_S (oA O) s.heap H locs) (hf : f_X12_guesses_233 k54 (oX O) h v1 v2 v3 v4 v5 v6 v7 v8 = some h') : W p l e (x_rm 7 171) s m args below meth c H locs 0 0 (MQ below (x_Qc O K h' none) args s 0 0 (oA O)) (F0 m 233 ls []) := by
  have hx := C.1
  have hb := C.2.1
  rw [f_X12_guesses_233] at hf
  refine lv_iinc (k := 8) (v := _ + 1) (lv' := [(8, _), (0, _), (1, _), (2, _), (3, _), (4, _), (5, _), (6, _), (7, _)]) hx hb dX12_guesses_233 hl rfl (x_inc 1 1 rfl _) (Nat.le_of_ble_eq_true rfl) rfl (fun ls hl => ?_)
  refine lv_goto (tgt := 54) hx hb dX12_guesses_236 rfl ?_
  exact hk54 ls _ _ h _ _ _ _ _ _ _ _  (lv_sub hl [1, 2, 3, 4, 5, 6, 7, 8, 0] rfl) hR hS hf
set_option maxRecDepth 20000 in
theorem B_X12_guesses_127 {p : Program} {l : Launch} {e : Env} {s : State} {m : MethodId} {args : Array Value} {below : List Frame} {meth : Method} {c : Code} {O : XO} {K : XK} {h' : XH}  {k54 : XH → Int32 → Int32 → Int32 → Int32 → Int32 → Int32 → Int32 → Int32 → Option (XH)} {k77 : XH → Int32 → Int32 → Int32 → Int32 → Int32 → Int32 → Int32 → Int32 → Int32 → Int32 → Int32 → Int32 → Int32 → Option (XH)} (C : x_C p s m args meth c O cX12_guesses 14 RX12 none) (hk54 : ∀ (ls : Array Slot) (H : Heap) (locs : List Loc) (h : XH) (v1 : Int32) (v2 : Int32) (v3 : Int32) (v4 : Int32) (v5 : Int32) (v6 : Int32) (v7 : Int32) (v8 : Int32), lv_has ls 14 [(0, .ref (oX O + 64)), (1, .int v1), (2, .int v2), (3, .int v3), (4, .int v4), (5, .int v5), (6, .int v6), (7, .int v7), (8, .int v8)] → x_R O K h H → va_S (oA O) s.heap H locs → k54 h v1 v2 v3 v4 v5 v6 v7 v8 = some h' → W p l e (x_rm 7 171) s m args below meth c H locs 0 0 (MQ below (x_Qc O K h' none) args s 0 0 (oA O)) (F0 m 54 ls [])) (hk77 : ∀ (ls : Array Slot) (H : Heap) (locs : List Loc) (h : XH) (v1 : Int32) (v2 : Int32) (v3 : Int32) (v4 : Int32) (v5 : Int32) (v6 : Int32) (v7 : Int32) (v8 : Int32) (v9 : Int32) (v10 : Int32) (v11 : Int32) (v12 : Int32) (v13 : Int32), lv_has ls 14 [(0, .ref (oX O + 64)), (1, .int v1), (2, .int v2), (3, .int v3), (4, .int v4), (5, .int v5), (6, .int v6), (7, .int v7), (8, .int v8), (9, .int v9), (10, .int v10), (11, .int v11), (12, .int v12), (13, .int v13)] → x_R O K h H → va_S (oA O) s.heap H locs → k77 h v1 v2 v3 v4 v5 v6 v7 v8 v9 v10 v11 v12 v13 = some h' → W p l e (x_rm 7 171) s m args below meth c H locs 0 0 (MQ below (x_Qc O K h' none) args s 0 0 (oA O)) (F0 m 77 ls []))  (ls : Array Slot) (H : Heap) (locs : List Loc) (h : XH) (v1 : Int32) (v2 : Int32) (v3 : Int32) (v4 : Int32) (v5 : Int32) (v6 : Int32) (v7 : Int32) (v8 : Int32) (v9 : Int32) (v10 : Int32) (v12 : Int32) (v13 : Int32) (s0 : Int32) (hl : lv_has ls 14 [(0, .ref (oX O + 64)), (1, .int v1), (2, .int v2), (3, .int v3), (4, .int v4), (5, .int v5), (6, .int v6), (7, .int v7), (8, .int v8), (9, .int v9), (10, .int v10), (12, .int v12), (13, .int v13)]) (hR : x_R O K h H) (hS : va_S (oA O) s.heap H locs) (hf : f_X12_guesses_127 k54 k77 (oX O) h v1 v2 v3 v4 v5 v6 v7 v8 v9 v10 v12 v13 s0 = some h') : W p l e (x_rm 7 171) s m args below meth c H locs 0 0 (MQ below (x_Qc O K h' none) args s 0 0 (oA O)) (F0 m 127 ls [.int s0]) := by
  have hx := C.1
  have hb := C.2.1
  rw [f_X12_guesses_127] at hf
  refine lv_istore (lv' := [(11, _), (0, _), (1, _), (2, _), (3, _), (4, _), (5, _), (6, _), (7, _), (8, _), (9, _), (10, _), (12, _), (13, _)]) hx hb dX12_guesses_127 hl (Nat.le_of_ble_eq_true rfl) rfl (fun ls hl => ?_)
  refine lv_iload hx hb dX12_guesses_129 (lv_at hl 10 rfl) ?_
  refine lv_iconst (v := 1) hx hb dX12_guesses_131 rfl ?_
  refine lv_aload_n hx hb dX12_guesses_132 rfl (lv_at hl 1 rfl) ?_
  refine gf_12_19 C hR (x_k hR 64 rfl) tw_1562 dX12_guesses_133 ?_
  refine lv_iload hx hb dX12_guesses_136 (lv_at hl 13 rfl) ?_
  obtain ⟨g13, hf⟩ := x_gd hf
  refine x_iald C hR (x_k1 (x_k hR 73 rfl)) (x_k2 (x_k hR 73 rfl) g13) dX12_guesses_138 ?_
  refine lv_ishl hx hb dX12_guesses_139 ?_
  refine lv_ior hx hb dX12_guesses_140 ?_
  obtain ⟨t14, et14, hf⟩ := x_lt hf
  refine x_nmi et14 ?_
  refine lv_istore (lv' := [(9, _), (11, _), (0, _), (1, _), (2, _), (3, _), (4, _), (5, _), (6, _), (7, _), (8, _), (10, _), (12, _), (13, _)]) hx hb dX12_guesses_141 hl (Nat.le_of_ble_eq_true rfl) rfl (fun ls hl => ?_)
  refine lv_iload hx hb dX12_guesses_143 (lv_at hl 11 rfl) ?_
  refine lv_aload_n hx hb dX12_guesses_145 rfl (lv_at hl 2 rfl) ?_
  refine gf_12_18 C hR (x_k hR 64 rfl) tw_1561 dX12_guesses_146 ?_
  refine lv_aload_n hx hb dX12_guesses_149 rfl (lv_at hl 2 rfl) ?_
  refine gf_12_19 C hR (x_k hR 64 rfl) tw_1562 dX12_guesses_150 ?_
  refine lv_iload hx hb dX12_guesses_153 (lv_at hl 13 rfl) ?_
  obtain ⟨g15, hf⟩ := x_gd hf
  refine x_iald C hR (x_k1 (x_k hR 73 rfl)) (x_k2 (x_k hR 73 rfl) g15) dX12_guesses_155 ?_
  obtain ⟨g16, hf⟩ := x_gd hf
  refine x_iald C hR (x_k1 (x_k hR 72 rfl)) (x_k2 (x_k hR 72 rfl) g16) dX12_guesses_156 ?_
  refine lv_aload_n hx hb dX12_guesses_157 rfl (lv_at hl 2 rfl) ?_
  refine lv_iload_n hx hb dX12_guesses_158 rfl (lv_at hl 4 rfl) ?_
  refine lv_aload_n hx hb dX12_guesses_159 rfl (lv_at hl 2 rfl) ?_
  refine gf_12_17 C hR (x_k hR 64 rfl) tw_1560 dX12_guesses_160 ?_
  refine lv_iload hx hb dX12_guesses_163 (lv_at hl 13 rfl) ?_
  obtain ⟨g17, hf⟩ := x_gd hf
  refine x_iald C hR (x_k1 (x_k hR 71 rfl)) (x_k2 (x_k hR 71 rfl) g17) dX12_guesses_165 ?_
  obtain ⟨v_18, ev_18, hf⟩ := x_bd hf
  refine x_cVi2 C hR hS (S_X12_cardOf  ev_18) (x_k hR 64 rfl) (by decide) rfl mf_X12_cardOf tw_1810 (Nat.le_of_ble_eq_true rfl) (Nat.le_of_ble_eq_true rfl) hl.1 (Nat.le_of_ble_eq_true rfl) dX12_guesses_166 ⟨Nat.le_refl _, Nat.le_refl _⟩ (fun H locs hR hS => ?_)
  have kM19 : ∀ (ls : Array Slot) (H : Heap) (locs : List Loc), lv_has ls 14 [(0, .ref (oX O + 64)), (1, .int v1), (2, .int v2), (3, .int v3), (4, .int v4), (5, .int v5), (6, .int v6), (7, .int v7), (8, .int v8), (9, .int t14), (11, .int s0), (12, .int v12), (13, .int v13)] → x_R O K h H → va_S (oA O) s.heap H locs → W p l e (x_rm 7 171) s m args below meth c H locs 0 0 (MQ below (x_Qc O K h' none) args s 0 0 (oA O)) (F0 m 177 ls [.int (if (h.1 (oX O + 72) (h.1 (oX O + 73) v13.toNatClampNeg).toNatClampNeg) = v_18 then 1 else 0), .int v10]) := by
    intro ls H locs hl hR hS
    refine lv_iadd hx hb dX12_guesses_177 ?_
    obtain ⟨t20, et20, hf⟩ := x_lt hf
    refine x_nmi et20 ?_
    refine lv_istore (lv' := [(10, _), (0, _), (1, _), (2, _), (3, _), (4, _), (5, _), (6, _), (7, _), (8, _), (9, _), (11, _), (12, _), (13, _)]) hx hb dX12_guesses_178 hl (Nat.le_of_ble_eq_true rfl) rfl (fun ls hl => ?_)
    refine lv_iinc (k := 13) (v := _ + 1) (lv' := [(13, _), (10, _), (0, _), (1, _), (2, _), (3, _), (4, _), (5, _), (6, _), (7, _), (8, _), (9, _), (11, _), (12, _)]) hx hb dX12_guesses_180 hl rfl (x_inc 1 1 rfl _) (Nat.le_of_ble_eq_true rfl) rfl (fun ls hl => ?_)
    refine lv_goto (tgt := 77) hx hb dX12_guesses_183 rfl ?_
    exact hk77 ls _ _ h _ _ _ _ _ _ _ _ _ _ _ _ _  (lv_sub hl [2, 3, 4, 5, 6, 7, 8, 9, 10, 11, 1, 12, 13, 0] rfl) hR hS hf
  refine lv_icmp_ne (tgt := 176) hx hb dX12_guesses_169 rfl (fun hc => ?_) (fun hc => ?_)
  · try simp only [if_neg hc] at kM19
    refine lv_iconst (v := 0) hx hb dX12_guesses_176 rfl ?_
    exact kM19 ls _ _ (lv_sub hl [2, 3, 4, 5, 6, 7, 8, 9, 10, 0, 1, 12, 13] rfl) hR hS
  · try simp only [if_pos hc] at kM19
    refine lv_iconst (v := 1) hx hb dX12_guesses_172 rfl ?_
    refine lv_goto (tgt := 177) hx hb dX12_guesses_173 rfl ?_
    exact kM19 ls _ _ (lv_sub hl [2, 3, 4, 5, 6, 7, 8, 9, 10, 0, 1, 12, 13] rfl) hR hS
set_option maxRecDepth 20000 in
theorem B_X12_guesses_126 {p : Program} {l : Launch} {e : Env} {s : State} {m : MethodId} {args : Array Value} {below : List Frame} {meth : Method} {c : Code} {O : XO} {K : XK} {h' : XH}  {k54 : XH → Int32 → Int32 → Int32 → Int32 → Int32 → Int32 → Int32 → Int32 → Option (XH)} {k77 : XH → Int32 → Int32 → Int32 → Int32 → Int32 → Int32 → Int32 → Int32 → Int32 → Int32 → Int32 → Int32 → Int32 → Option (XH)} (C : x_C p s m args meth c O cX12_guesses 14 RX12 none) (hk54 : ∀ (ls : Array Slot) (H : Heap) (locs : List Loc) (h : XH) (v1 : Int32) (v2 : Int32) (v3 : Int32) (v4 : Int32) (v5 : Int32) (v6 : Int32) (v7 : Int32) (v8 : Int32), lv_has ls 14 [(0, .ref (oX O + 64)), (1, .int v1), (2, .int v2), (3, .int v3), (4, .int v4), (5, .int v5), (6, .int v6), (7, .int v7), (8, .int v8)] → x_R O K h H → va_S (oA O) s.heap H locs → k54 h v1 v2 v3 v4 v5 v6 v7 v8 = some h' → W p l e (x_rm 7 171) s m args below meth c H locs 0 0 (MQ below (x_Qc O K h' none) args s 0 0 (oA O)) (F0 m 54 ls [])) (hk77 : ∀ (ls : Array Slot) (H : Heap) (locs : List Loc) (h : XH) (v1 : Int32) (v2 : Int32) (v3 : Int32) (v4 : Int32) (v5 : Int32) (v6 : Int32) (v7 : Int32) (v8 : Int32) (v9 : Int32) (v10 : Int32) (v11 : Int32) (v12 : Int32) (v13 : Int32), lv_has ls 14 [(0, .ref (oX O + 64)), (1, .int v1), (2, .int v2), (3, .int v3), (4, .int v4), (5, .int v5), (6, .int v6), (7, .int v7), (8, .int v8), (9, .int v9), (10, .int v10), (11, .int v11), (12, .int v12), (13, .int v13)] → x_R O K h H → va_S (oA O) s.heap H locs → k77 h v1 v2 v3 v4 v5 v6 v7 v8 v9 v10 v11 v12 v13 = some h' → W p l e (x_rm 7 171) s m args below meth c H locs 0 0 (MQ below (x_Qc O K h' none) args s 0 0 (oA O)) (F0 m 77 ls []))  (ls : Array Slot) (H : Heap) (locs : List Loc) (h : XH) (v1 : Int32) (v2 : Int32) (v3 : Int32) (v4 : Int32) (v5 : Int32) (v6 : Int32) (v7 : Int32) (v8 : Int32) (v9 : Int32) (v10 : Int32) (v12 : Int32) (v13 : Int32) (hl : lv_has ls 14 [(0, .ref (oX O + 64)), (1, .int v1), (2, .int v2), (3, .int v3), (4, .int v4), (5, .int v5), (6, .int v6), (7, .int v7), (8, .int v8), (9, .int v9), (10, .int v10), (12, .int v12), (13, .int v13)]) (hR : x_R O K h H) (hS : va_S (oA O) s.heap H locs) (hf : f_X12_guesses_126 k54 k77 (oX O) h v1 v2 v3 v4 v5 v6 v7 v8 v9 v10 v12 v13 = some h') : W p l e (x_rm 7 171) s m args below meth c H locs 0 0 (MQ below (x_Qc O K h' none) args s 0 0 (oA O)) (F0 m 126 ls []) := by
  have hx := C.1
  have hb := C.2.1
  rw [f_X12_guesses_126] at hf
  refine lv_iconst (v := 0) hx hb dX12_guesses_126 rfl ?_
  exact B_X12_guesses_127  C hk54 hk77  ls _ _ h _ _ _ _ _ _ _ _ _ _ _ _ _  (lv_sub hl [0, 1, 2, 3, 4, 5, 6, 7, 8, 9, 10, 11, 12] rfl) hR hS hf
set_option maxRecDepth 20000 in
theorem B_X12_guesses_77 {p : Program} {l : Launch} {e : Env} {s : State} {m : MethodId} {args : Array Value} {below : List Frame} {meth : Method} {c : Code} {O : XO} {K : XK} {h' : XH}  {k54 : XH → Int32 → Int32 → Int32 → Int32 → Int32 → Int32 → Int32 → Int32 → Option (XH)} (C : x_C p s m args meth c O cX12_guesses 14 RX12 none) (hk54 : ∀ (ls : Array Slot) (H : Heap) (locs : List Loc) (h : XH) (v1 : Int32) (v2 : Int32) (v3 : Int32) (v4 : Int32) (v5 : Int32) (v6 : Int32) (v7 : Int32) (v8 : Int32), lv_has ls 14 [(0, .ref (oX O + 64)), (1, .int v1), (2, .int v2), (3, .int v3), (4, .int v4), (5, .int v5), (6, .int v6), (7, .int v7), (8, .int v8)] → x_R O K h H → va_S (oA O) s.heap H locs → k54 h v1 v2 v3 v4 v5 v6 v7 v8 = some h' → W p l e (x_rm 7 171) s m args below meth c H locs 0 0 (MQ below (x_Qc O K h' none) args s 0 0 (oA O)) (F0 m 54 ls []))  : ∀ (n : Nat) (ls : Array Slot) (H : Heap) (locs : List Loc) (h : XH) (v1 : Int32) (v2 : Int32) (v3 : Int32) (v4 : Int32) (v5 : Int32) (v6 : Int32) (v7 : Int32) (v8 : Int32) (v9 : Int32) (v10 : Int32) (v11 : Int32) (v12 : Int32) (v13 : Int32) (hl : lv_has ls 14 [(0, .ref (oX O + 64)), (1, .int v1), (2, .int v2), (3, .int v3), (4, .int v4), (5, .int v5), (6, .int v6), (7, .int v7), (8, .int v8), (9, .int v9), (10, .int v10), (11, .int v11), (12, .int v12), (13, .int v13)]) (hR : x_R O K h H) (hS : va_S (oA O) s.heap H locs) (hf : f_X12_guesses_77 k54 (oX O) n h v1 v2 v3 v4 v5 v6 v7 v8 v9 v10 v11 v12 v13 = some h'), W p l e (x_rm 7 171) s m args below meth c H locs 0 0 (MQ below (x_Qc O K h' none) args s 0 0 (oA O)) (F0 m 77 ls []) := by
  have hx := C.1
  have hb := C.2.1
  intro n
  induction n with
  | zero =>
    intro ls H locs h v1 v2 v3 v4 v5 v6 v7 v8 v9 v10 v11 v12 v13 hl hR hS hf
    rw [f_X12_guesses_77] at hf
    cases hf
  | succ n ih =>
    intro ls H locs h v1 v2 v3 v4 v5 v6 v7 v8 v9 v10 v11 v12 v13 hl hR hS hf
    rw [f_X12_guesses_77] at hf
    refine lv_iload hx hb dX12_guesses_77 (lv_at hl 13 rfl) ?_
    refine lv_iload_n hx hb dX12_guesses_79 rfl (lv_at hl 3 rfl) ?_
    refine lv_icmp_ge (tgt := 186) hx hb dX12_guesses_80 rfl (fun hc => ?_) (fun hc => ?_)
    · have hf := x_ip hc hf
      refine lv_iload hx hb dX12_guesses_186 (lv_at hl 11 rfl) ?_
      refine lv_if_ne (tgt := 194) hx hb dX12_guesses_188 rfl (fun hc => ?_) (fun hc => ?_)
      · have hf := x_in hc hf
        refine lv_aload_n hx hb dX12_guesses_194 rfl (lv_at hl 0 rfl) ?_
        refine lv_dup hx hb dX12_guesses_195 rfl ?_
        refine gf_12_21 C hR (x_k hR 64 rfl) tw_1564 dX12_guesses_196 ?_
        refine lv_iconst (v := 1) hx hb dX12_guesses_199 rfl ?_
        refine lv_iadd hx hb dX12_guesses_200 ?_
        obtain ⟨h5, eh5, hf⟩ := x_lt hf
        refine pf_12_21 C hR hS (x_k hR 64 rfl) tw_1564 dX12_guesses_201 (fun H locs hR hS => ?_)
        rw [← eh5] at hR
        refine lv_aload_n hx hb dX12_guesses_204 rfl (lv_at hl 0 rfl) ?_
        refine lv_dup hx hb dX12_guesses_205 rfl ?_
        refine gf_12_20 C hR (x_k hR 64 rfl) tw_1563 dX12_guesses_206 ?_
        refine lv_aload_n hx hb dX12_guesses_209 rfl (lv_at hl 0 rfl) ?_
        refine lv_iload_n hx hb dX12_guesses_210 rfl (lv_at hl 1 rfl) ?_
        refine lv_aload_n hx hb dX12_guesses_211 rfl (lv_at hl 0 rfl) ?_
        refine lv_iload_n hx hb dX12_guesses_212 rfl (lv_at hl 2 rfl) ?_
        refine lv_iconst (v := 2) hx hb dX12_guesses_213 rfl ?_
        obtain ⟨v_6, ev_6, hf⟩ := x_bd hf
        refine x_cVi2 C hR hS (S_X12_of  ev_6) (x_k hR 64 rfl) (by decide) rfl mf_X12_of tw_1806 (Nat.le_of_ble_eq_true rfl) (Nat.le_of_ble_eq_true rfl) hl.1 (Nat.le_of_ble_eq_true rfl) dX12_guesses_214 ⟨Nat.le_refl _, Nat.le_refl _⟩ (fun H locs hR hS => ?_)
        refine lv_iload hx hb dX12_guesses_217 (lv_at hl 5 rfl) ?_
        refine lv_iload hx hb dX12_guesses_219 (lv_at hl 10 rfl) ?_
        refine lv_iadd hx hb dX12_guesses_221 ?_
        refine lv_iload hx hb dX12_guesses_222 (lv_at hl 6 rfl) ?_
        refine lv_iload_n hx hb dX12_guesses_224 rfl (lv_at hl 3 rfl) ?_
        refine lv_isub hx hb dX12_guesses_225 ?_
        obtain ⟨q7, eq7, hf⟩ := x_bd hf
        refine x_cVi4 C hR hS (S_X12_scored  eq7) (x_k hR 64 rfl) (by decide) rfl mf_X12_scored tw_1983 (Nat.le_of_ble_eq_true rfl) (Nat.le_of_ble_eq_true rfl) hl.1 (Nat.le_of_ble_eq_true rfl) dX12_guesses_226 ⟨Nat.le_refl _, Nat.le_refl _⟩ (fun H locs hR hS => ?_)
        refine lv_iadd hx hb dX12_guesses_229 ?_
        obtain ⟨h8, eh8, hf⟩ := x_lt hf
        refine pf_12_20 C hR hS (x_k hR 64 rfl) tw_1563 dX12_guesses_230 (fun H locs hR hS => ?_)
        rw [← eh8] at hR
        exact B_X12_guesses_233  C hk54  ls _ _ h8 _ _ _ _ _ _ _ _  (lv_sub hl [0, 1, 2, 3, 4, 5, 6, 7, 8] rfl) hR hS hf
      · have hf := x_ip hc hf
        refine lv_goto (tgt := 233) hx hb dX12_guesses_191 rfl ?_
        exact B_X12_guesses_233  C hk54  ls _ _ h _ _ _ _ _ _ _ _  (lv_sub hl [0, 1, 2, 3, 4, 5, 6, 7, 8] rfl) hR hS hf
    · have hf := x_in hc hf
      refine lv_aload_n hx hb dX12_guesses_83 rfl (lv_at hl 0 rfl) ?_
      refine gf_12_19 C hR (x_k hR 64 rfl) tw_1562 dX12_guesses_84 ?_
      refine lv_iload hx hb dX12_guesses_87 (lv_at hl 13 rfl) ?_
      refine lv_iload hx hb dX12_guesses_89 (lv_at hl 12 rfl) ?_
      refine lv_iload hx hb dX12_guesses_91 (lv_at hl 4 rfl) ?_
      obtain ⟨g9, hf⟩ := x_gn hf
      refine lv_irem hx hb dX12_guesses_93 g9 ?_
      obtain ⟨g10, hf⟩ := x_gd hf
      obtain ⟨h11, eh11, hf⟩ := x_lt hf
      refine x_iast C hR hS (x_k1 (x_k hR 73 rfl)) (x_k2 (x_k hR 73 rfl) g10) dX12_guesses_94 (fun H locs hR hS => ?_)
      rw [← eh11] at hR
      refine lv_iload hx hb dX12_guesses_95 (lv_at hl 12 rfl) ?_
      refine lv_iload hx hb dX12_guesses_97 (lv_at hl 4 rfl) ?_
      obtain ⟨g12, hf⟩ := x_gn hf
      refine lv_idiv hx hb dX12_guesses_99 g12 ?_
      refine lv_istore (lv' := [(12, _), (0, _), (1, _), (2, _), (3, _), (4, _), (5, _), (6, _), (7, _), (8, _), (9, _), (10, _), (11, _), (13, _)]) hx hb dX12_guesses_100 hl (Nat.le_of_ble_eq_true rfl) rfl (fun ls hl => ?_)
      refine lv_iload hx hb dX12_guesses_102 (lv_at hl 12 rfl) ?_
      refine lv_if_eq (tgt := 126) hx hb dX12_guesses_104 rfl (fun hc => ?_) (fun hc => ?_)
      · have hf := x_ip hc hf
        exact B_X12_guesses_126  C hk54 ih  ls _ _ h11 _ _ _ _ _ _ _ _ _ _ _ _  (lv_sub hl [1, 2, 3, 4, 5, 6, 7, 8, 9, 10, 11, 0, 13] rfl) hR hS hf
      · have hf := x_in hc hf
        refine lv_iload hx hb dX12_guesses_107 (lv_at hl 10 rfl) ?_
        refine lv_aload_n hx hb dX12_guesses_109 rfl (lv_at hl 1 rfl) ?_
        refine gf_12_19 C hR (x_k hR 64 rfl) tw_1562 dX12_guesses_110 ?_
        refine lv_iload hx hb dX12_guesses_113 (lv_at hl 13 rfl) ?_
        obtain ⟨g21, hf⟩ := x_gd hf
        refine x_iald C hR (x_k1 (x_k hR 73 rfl)) (x_k2 (x_k hR 73 rfl) g21) dX12_guesses_115 ?_
        refine lv_ishr hx hb dX12_guesses_116 ?_
        refine lv_iconst (v := 1) hx hb dX12_guesses_117 rfl ?_
        refine lv_iand hx hb dX12_guesses_118 ?_
        have kM22 : ∀ (ls : Array Slot) (H : Heap) (locs : List Loc), lv_has ls 14 [(0, .ref (oX O + 64)), (1, .int v1), (2, .int v2), (3, .int v3), (4, .int v4), (5, .int v5), (6, .int v6), (7, .int v7), (8, .int v8), (9, .int v9), (10, .int v10), (12, .int (v12 / v4)), (13, .int v13)] → x_R O K h11 H → va_S (oA O) s.heap H locs → W p l e (x_rm 7 171) s m args below meth c H locs 0 0 (MQ below (x_Qc O K h' none) args s 0 0 (oA O)) (F0 m 127 ls [.int (if ((x_shr v9 (h11.1 (oX O + 73) v13.toNatClampNeg)) &&& 1) = 0 then 1 else 0)]) := by
          intro ls H locs hl hR hS
          obtain ⟨t23, et23, hf⟩ := x_lt hf
          refine x_nmi et23 ?_
          refine lv_istore (lv' := [(11, _), (0, _), (1, _), (2, _), (3, _), (4, _), (5, _), (6, _), (7, _), (8, _), (9, _), (10, _), (12, _), (13, _)]) hx hb dX12_guesses_127 hl (Nat.le_of_ble_eq_true rfl) rfl (fun ls hl => ?_)
          refine lv_iload hx hb dX12_guesses_129 (lv_at hl 10 rfl) ?_
          refine lv_iconst (v := 1) hx hb dX12_guesses_131 rfl ?_
          refine lv_aload_n hx hb dX12_guesses_132 rfl (lv_at hl 1 rfl) ?_
          refine gf_12_19 C hR (x_k hR 64 rfl) tw_1562 dX12_guesses_133 ?_
          refine lv_iload hx hb dX12_guesses_136 (lv_at hl 13 rfl) ?_
          obtain ⟨g24, hf⟩ := x_gd hf
          refine x_iald C hR (x_k1 (x_k hR 73 rfl)) (x_k2 (x_k hR 73 rfl) g24) dX12_guesses_138 ?_
          refine lv_ishl hx hb dX12_guesses_139 ?_
          refine lv_ior hx hb dX12_guesses_140 ?_
          obtain ⟨t25, et25, hf⟩ := x_lt hf
          refine x_nmi et25 ?_
          refine lv_istore (lv' := [(9, _), (11, _), (0, _), (1, _), (2, _), (3, _), (4, _), (5, _), (6, _), (7, _), (8, _), (10, _), (12, _), (13, _)]) hx hb dX12_guesses_141 hl (Nat.le_of_ble_eq_true rfl) rfl (fun ls hl => ?_)
          refine lv_iload hx hb dX12_guesses_143 (lv_at hl 11 rfl) ?_
          refine lv_aload_n hx hb dX12_guesses_145 rfl (lv_at hl 2 rfl) ?_
          refine gf_12_18 C hR (x_k hR 64 rfl) tw_1561 dX12_guesses_146 ?_
          refine lv_aload_n hx hb dX12_guesses_149 rfl (lv_at hl 2 rfl) ?_
          refine gf_12_19 C hR (x_k hR 64 rfl) tw_1562 dX12_guesses_150 ?_
          refine lv_iload hx hb dX12_guesses_153 (lv_at hl 13 rfl) ?_
          obtain ⟨g26, hf⟩ := x_gd hf
          refine x_iald C hR (x_k1 (x_k hR 73 rfl)) (x_k2 (x_k hR 73 rfl) g26) dX12_guesses_155 ?_
          obtain ⟨g27, hf⟩ := x_gd hf
          refine x_iald C hR (x_k1 (x_k hR 72 rfl)) (x_k2 (x_k hR 72 rfl) g27) dX12_guesses_156 ?_
          refine lv_aload_n hx hb dX12_guesses_157 rfl (lv_at hl 2 rfl) ?_
          refine lv_iload_n hx hb dX12_guesses_158 rfl (lv_at hl 4 rfl) ?_
          refine lv_aload_n hx hb dX12_guesses_159 rfl (lv_at hl 2 rfl) ?_
          refine gf_12_17 C hR (x_k hR 64 rfl) tw_1560 dX12_guesses_160 ?_
          refine lv_iload hx hb dX12_guesses_163 (lv_at hl 13 rfl) ?_
          obtain ⟨g28, hf⟩ := x_gd hf
          refine x_iald C hR (x_k1 (x_k hR 71 rfl)) (x_k2 (x_k hR 71 rfl) g28) dX12_guesses_165 ?_
          obtain ⟨v_29, ev_29, hf⟩ := x_bd hf
          refine x_cVi2 C hR hS (S_X12_cardOf  ev_29) (x_k hR 64 rfl) (by decide) rfl mf_X12_cardOf tw_1810 (Nat.le_of_ble_eq_true rfl) (Nat.le_of_ble_eq_true rfl) hl.1 (Nat.le_of_ble_eq_true rfl) dX12_guesses_166 ⟨Nat.le_refl _, Nat.le_refl _⟩ (fun H locs hR hS => ?_)
          have kM30 : ∀ (ls : Array Slot) (H : Heap) (locs : List Loc), lv_has ls 14 [(0, .ref (oX O + 64)), (1, .int v1), (2, .int v2), (3, .int v3), (4, .int v4), (5, .int v5), (6, .int v6), (7, .int v7), (8, .int v8), (9, .int t25), (11, .int t23), (12, .int (v12 / v4)), (13, .int v13)] → x_R O K h11 H → va_S (oA O) s.heap H locs → W p l e (x_rm 7 171) s m args below meth c H locs 0 0 (MQ below (x_Qc O K h' none) args s 0 0 (oA O)) (F0 m 177 ls [.int (if (h11.1 (oX O + 72) (h11.1 (oX O + 73) v13.toNatClampNeg).toNatClampNeg) = v_29 then 1 else 0), .int v10]) := by
            intro ls H locs hl hR hS
            refine lv_iadd hx hb dX12_guesses_177 ?_
            obtain ⟨t31, et31, hf⟩ := x_lt hf
            refine x_nmi et31 ?_
            refine lv_istore (lv' := [(10, _), (0, _), (1, _), (2, _), (3, _), (4, _), (5, _), (6, _), (7, _), (8, _), (9, _), (11, _), (12, _), (13, _)]) hx hb dX12_guesses_178 hl (Nat.le_of_ble_eq_true rfl) rfl (fun ls hl => ?_)
            refine lv_iinc (k := 13) (v := _ + 1) (lv' := [(13, _), (10, _), (0, _), (1, _), (2, _), (3, _), (4, _), (5, _), (6, _), (7, _), (8, _), (9, _), (11, _), (12, _)]) hx hb dX12_guesses_180 hl rfl (x_inc 1 1 rfl _) (Nat.le_of_ble_eq_true rfl) rfl (fun ls hl => ?_)
            refine lv_goto (tgt := 77) hx hb dX12_guesses_183 rfl ?_
            exact ih ls _ _ h11 _ _ _ _ _ _ _ _ _ _ _ _ _  (lv_sub hl [2, 3, 4, 5, 6, 7, 8, 9, 10, 11, 1, 12, 13, 0] rfl) hR hS hf
          refine lv_icmp_ne (tgt := 176) hx hb dX12_guesses_169 rfl (fun hc => ?_) (fun hc => ?_)
          · try simp only [if_neg hc] at kM30
            refine lv_iconst (v := 0) hx hb dX12_guesses_176 rfl ?_
            exact kM30 ls _ _ (lv_sub hl [2, 3, 4, 5, 6, 7, 8, 9, 10, 0, 1, 12, 13] rfl) hR hS
          · try simp only [if_pos hc] at kM30
            refine lv_iconst (v := 1) hx hb dX12_guesses_172 rfl ?_
            refine lv_goto (tgt := 177) hx hb dX12_guesses_173 rfl ?_
            exact kM30 ls _ _ (lv_sub hl [2, 3, 4, 5, 6, 7, 8, 9, 10, 0, 1, 12, 13] rfl) hR hS
        refine lv_if_ne (tgt := 126) hx hb dX12_guesses_119 rfl (fun hc => ?_) (fun hc => ?_)
        · try simp only [if_neg hc] at kM22
          refine lv_iconst (v := 0) hx hb dX12_guesses_126 rfl ?_
          exact kM22 ls _ _ (lv_sub hl [1, 2, 3, 4, 5, 6, 7, 8, 9, 10, 11, 0, 13] rfl) hR hS
        · try simp only [if_pos hc] at kM22
          refine lv_iconst (v := 1) hx hb dX12_guesses_122 rfl ?_
          refine lv_goto (tgt := 127) hx hb dX12_guesses_123 rfl ?_
          exact kM22 ls _ _ (lv_sub hl [1, 2, 3, 4, 5, 6, 7, 8, 9, 10, 11, 0, 13] rfl) hR hS
set_option maxRecDepth 20000 in
theorem B_X12_guesses_54 {p : Program} {l : Launch} {e : Env} {s : State} {m : MethodId} {args : Array Value} {below : List Frame} {meth : Method} {c : Code} {O : XO} {K : XK} {h' : XH}   (C : x_C p s m args meth c O cX12_guesses 14 RX12 none)   : ∀ (n : Nat) (ls : Array Slot) (H : Heap) (locs : List Loc) (h : XH) (v1 : Int32) (v2 : Int32) (v3 : Int32) (v4 : Int32) (v5 : Int32) (v6 : Int32) (v7 : Int32) (v8 : Int32) (hl : lv_has ls 14 [(0, .ref (oX O + 64)), (1, .int v1), (2, .int v2), (3, .int v3), (4, .int v4), (5, .int v5), (6, .int v6), (7, .int v7), (8, .int v8)]) (hR : x_R O K h H) (hS : va_S (oA O) s.heap H locs) (hf : f_X12_guesses_54 (oX O) n h v1 v2 v3 v4 v5 v6 v7 v8 = some h'), W p l e (x_rm 7 171) s m args below meth c H locs 0 0 (MQ below (x_Qc O K h' none) args s 0 0 (oA O)) (F0 m 54 ls []) := by
  have hx := C.1
  have hb := C.2.1
  intro n
  induction n with
  | zero =>
    intro ls H locs h v1 v2 v3 v4 v5 v6 v7 v8 hl hR hS hf
    rw [f_X12_guesses_54] at hf
    cases hf
  | succ n ih =>
    intro ls H locs h v1 v2 v3 v4 v5 v6 v7 v8 hl hR hS hf
    rw [f_X12_guesses_54] at hf
    refine lv_iload hx hb dX12_guesses_54 (lv_at hl 8 rfl) ?_
    refine lv_iload hx hb dX12_guesses_56 (lv_at hl 7 rfl) ?_
    refine lv_icmp_ge (tgt := 239) hx hb dX12_guesses_58 rfl (fun hc => ?_) (fun hc => ?_)
    · have hf := x_ip hc hf
      cases hf
      exact x_vret C hR hS dX12_guesses_239
    · have hf := x_in hc hf
      refine lv_iconst (v := 0) hx hb dX12_guesses_61 rfl ?_
      refine lv_istore (lv' := [(9, _), (0, _), (1, _), (2, _), (3, _), (4, _), (5, _), (6, _), (7, _), (8, _)]) hx hb dX12_guesses_62 hl (Nat.le_of_ble_eq_true rfl) rfl (fun ls hl => ?_)
      refine lv_iconst (v := 0) hx hb dX12_guesses_64 rfl ?_
      refine lv_istore (lv' := [(10, _), (9, _), (0, _), (1, _), (2, _), (3, _), (4, _), (5, _), (6, _), (7, _), (8, _)]) hx hb dX12_guesses_65 hl (Nat.le_of_ble_eq_true rfl) rfl (fun ls hl => ?_)
      refine lv_iconst (v := 1) hx hb dX12_guesses_67 rfl ?_
      refine lv_istore (lv' := [(11, _), (10, _), (9, _), (0, _), (1, _), (2, _), (3, _), (4, _), (5, _), (6, _), (7, _), (8, _)]) hx hb dX12_guesses_68 hl (Nat.le_of_ble_eq_true rfl) rfl (fun ls hl => ?_)
      refine lv_iload hx hb dX12_guesses_70 (lv_at hl 11 rfl) ?_
      refine lv_istore (lv' := [(12, _), (11, _), (10, _), (9, _), (0, _), (1, _), (2, _), (3, _), (4, _), (5, _), (6, _), (7, _), (8, _)]) hx hb dX12_guesses_72 hl (Nat.le_of_ble_eq_true rfl) rfl (fun ls hl => ?_)
      refine lv_iconst (v := 0) hx hb dX12_guesses_74 rfl ?_
      refine lv_istore (lv' := [(13, _), (12, _), (11, _), (10, _), (9, _), (0, _), (1, _), (2, _), (3, _), (4, _), (5, _), (6, _), (7, _), (8, _)]) hx hb dX12_guesses_75 hl (Nat.le_of_ble_eq_true rfl) rfl (fun ls hl => ?_)
      exact B_X12_guesses_77  C ih x_FU ls _ _ h _ _ _ _ _ _ _ _ _ _ _ _ _  (lv_sub hl [5, 6, 7, 8, 9, 10, 11, 12, 13, 4, 3, 2, 1, 0] rfl) hR hS hf
set_option maxRecDepth 20000 in
theorem B_X12_guesses_22 {p : Program} {l : Launch} {e : Env} {s : State} {m : MethodId} {args : Array Value} {below : List Frame} {meth : Method} {c : Code} {O : XO} {K : XK} {h' : XH}   (C : x_C p s m args meth c O cX12_guesses 14 RX12 none)   : ∀ (n : Nat) (ls : Array Slot) (H : Heap) (locs : List Loc) (h : XH) (v1 : Int32) (v2 : Int32) (v3 : Int32) (v4 : Int32) (v5 : Int32) (v6 : Int32) (v7 : Int32) (v8 : Int32) (hl : lv_has ls 14 [(0, .ref (oX O + 64)), (1, .int v1), (2, .int v2), (3, .int v3), (4, .int v4), (5, .int v5), (6, .int v6), (7, .int v7), (8, .int v8)]) (hR : x_R O K h H) (hS : va_S (oA O) s.heap H locs) (hf : f_X12_guesses_22 (oX O) n h v1 v2 v3 v4 v5 v6 v7 v8 = some h'), W p l e (x_rm 7 171) s m args below meth c H locs 0 0 (MQ below (x_Qc O K h' none) args s 0 0 (oA O)) (F0 m 22 ls []) := by
  have hx := C.1
  have hb := C.2.1
  intro n
  induction n with
  | zero =>
    intro ls H locs h v1 v2 v3 v4 v5 v6 v7 v8 hl hR hS hf
    rw [f_X12_guesses_22] at hf
    cases hf
  | succ n ih =>
    intro ls H locs h v1 v2 v3 v4 v5 v6 v7 v8 hl hR hS hf
    rw [f_X12_guesses_22] at hf
    refine lv_iload hx hb dX12_guesses_22 (lv_at hl 8 rfl) ?_
    refine lv_iload_n hx hb dX12_guesses_24 rfl (lv_at hl 3 rfl) ?_
    refine lv_icmp_ge (tgt := 41) hx hb dX12_guesses_25 rfl (fun hc => ?_) (fun hc => ?_)
    · have hf := x_ip hc hf
      refine lv_aload_n hx hb dX12_guesses_41 rfl (lv_at hl 0 rfl) ?_
      refine lv_iconst (v := 0) hx hb dX12_guesses_42 rfl ?_
      obtain ⟨h3, eh3, hf⟩ := x_lt hf
      refine pf_12_20 C hR hS (x_k hR 64 rfl) tw_1563 dX12_guesses_43 (fun H locs hR hS => ?_)
      rw [← eh3] at hR
      refine lv_aload_n hx hb dX12_guesses_46 rfl (lv_at hl 0 rfl) ?_
      refine lv_iconst (v := 0) hx hb dX12_guesses_47 rfl ?_
      obtain ⟨h4, eh4, hf⟩ := x_lt hf
      refine pf_12_21 C hR hS (x_k hR 64 rfl) tw_1564 dX12_guesses_48 (fun H locs hR hS => ?_)
      rw [← eh4] at hR
      refine lv_iconst (v := 0) hx hb dX12_guesses_51 rfl ?_
      refine lv_istore (lv' := [(8, _), (0, _), (1, _), (2, _), (3, _), (4, _), (5, _), (6, _), (7, _)]) hx hb dX12_guesses_52 hl (Nat.le_of_ble_eq_true rfl) rfl (fun ls hl => ?_)
      exact B_X12_guesses_54  C  x_FU ls _ _ h4 _ _ _ _ _ _ _ _  (lv_sub hl [1, 2, 3, 4, 5, 6, 7, 8, 0] rfl) hR hS hf
    · have hf := x_in hc hf
      refine lv_iload hx hb dX12_guesses_28 (lv_at hl 7 rfl) ?_
      refine lv_iload hx hb dX12_guesses_30 (lv_at hl 4 rfl) ?_
      refine lv_imul hx hb dX12_guesses_32 ?_
      refine lv_istore (lv' := [(7, _), (0, _), (1, _), (2, _), (3, _), (4, _), (5, _), (6, _), (8, _)]) hx hb dX12_guesses_33 hl (Nat.le_of_ble_eq_true rfl) rfl (fun ls hl => ?_)
      refine lv_iinc (k := 8) (v := _ + 1) (lv' := [(8, _), (7, _), (0, _), (1, _), (2, _), (3, _), (4, _), (5, _), (6, _)]) hx hb dX12_guesses_35 hl rfl (x_inc 1 1 rfl _) (Nat.le_of_ble_eq_true rfl) rfl (fun ls hl => ?_)
      refine lv_goto (tgt := 22) hx hb dX12_guesses_38 rfl ?_
      exact ih ls _ _ h _ _ _ _ _ _ _ _  (lv_sub hl [2, 3, 4, 5, 6, 7, 8, 1, 0] rfl) hR hS hf
set_option maxRecDepth 20000 in
theorem S_X12_guesses {l : Launch} {O : XO} {K : XK} {h : XH} {v1 : Int32} {v2 : Int32} {v3 : Int32} {v4 : Int32}  {h' : XH}  (hf : f_X12_guesses (oX O) h v1 v2 v3 v4 = some h') : x_M l O K yX12_guesses cX12_guesses 14 none 7 171 h [.ref (oX O + 64), .int v1, .int v2, .int v3, .int v4] none h' := by
  refine x_enter (by decide) (Nat.le_of_ble_eq_true rfl) (fun p e s m args below meth c C hR ls hl => ?_)
  have hS : va_S (oA O) s.heap s.heap [] := va_S.rf
  have hx := C.1
  have hb := C.2.1
  have hl : lv_has ls 14 [(0, .ref (oX O + 64)), (1, .int v1), (2, .int v2), (3, .int v3), (4, .int v4)] := hl
  rw [f_X12_guesses] at hf
  refine lv_aload_n hx hb dX12_guesses_0 rfl (lv_at hl 0 rfl) ?_
  refine lv_iload_n hx hb dX12_guesses_1 rfl (lv_at hl 2 rfl) ?_
  refine lv_iconst (v := 0) hx hb dX12_guesses_2 rfl ?_
  obtain ⟨v_1, ev_1, hf⟩ := x_bd hf
  refine x_cVi2 C hR hS (S_X12_kindsOf  ev_1) (x_k hR 64 rfl) (by decide) rfl mf_X12_kindsOf tw_1959 (Nat.le_of_ble_eq_true rfl) (Nat.le_of_ble_eq_true rfl) hl.1 (Nat.le_of_ble_eq_true rfl) dX12_guesses_3 ⟨Nat.le_refl _, Nat.le_refl _⟩ (fun H locs hR hS => ?_)
  refine lv_istore (lv' := [(5, _), (0, _), (1, _), (2, _), (3, _), (4, _)]) hx hb dX12_guesses_6 hl (Nat.le_of_ble_eq_true rfl) rfl (fun ls hl => ?_)
  refine lv_aload_n hx hb dX12_guesses_8 rfl (lv_at hl 1 rfl) ?_
  refine lv_iload_n hx hb dX12_guesses_9 rfl (lv_at hl 3 rfl) ?_
  refine lv_iconst (v := 1) hx hb dX12_guesses_10 rfl ?_
  obtain ⟨v_2, ev_2, hf⟩ := x_bd hf
  refine x_cVi2 C hR hS (S_X12_kindsOf  ev_2) (x_k hR 64 rfl) (by decide) rfl mf_X12_kindsOf tw_1959 (Nat.le_of_ble_eq_true rfl) (Nat.le_of_ble_eq_true rfl) hl.1 (Nat.le_of_ble_eq_true rfl) dX12_guesses_11 ⟨Nat.le_refl _, Nat.le_refl _⟩ (fun H locs hR hS => ?_)
  refine lv_istore (lv' := [(6, _), (5, _), (0, _), (1, _), (2, _), (3, _), (4, _)]) hx hb dX12_guesses_14 hl (Nat.le_of_ble_eq_true rfl) rfl (fun ls hl => ?_)
  refine lv_iconst (v := 1) hx hb dX12_guesses_16 rfl ?_
  refine lv_istore (lv' := [(7, _), (6, _), (5, _), (0, _), (1, _), (2, _), (3, _), (4, _)]) hx hb dX12_guesses_17 hl (Nat.le_of_ble_eq_true rfl) rfl (fun ls hl => ?_)
  refine lv_iconst (v := 0) hx hb dX12_guesses_19 rfl ?_
  refine lv_istore (lv' := [(8, _), (7, _), (6, _), (5, _), (0, _), (1, _), (2, _), (3, _), (4, _)]) hx hb dX12_guesses_20 hl (Nat.le_of_ble_eq_true rfl) rfl (fun ls hl => ?_)
  exact B_X12_guesses_22  C  x_FU ls _ _ h _ _ _ _ _ _ _ _  (lv_sub hl [4, 5, 6, 7, 8, 3, 2, 1, 0] rfl) hR hS hf
def f_X12_moment_75 (x : Nat) (h : XH) : Option (Int32 × XH) := some (0, h)
def f_X12_moment_34 (x : Nat) (h : XH) (v1 : Int32) (v2 : Int32) (s1 : Int32) (s2 : Int32) : Option (Int32 × XH) := Option.bind (f_X12_throwsIf x h (if s1 ≤ s2 then 1 else (if v1 ≤ 99999 then 0 else 1)) 1) (fun q6 => if q6.1 = 0 then Option.bind (f_X12_throwsIf x q6.2 (if v2 = 6 then 1 else 0) 2) (fun q8 => if q8.1 = 0 then if x_b (938 + v2) 6927 = true then x_let (x_i q8.2 (x + 65) (938 + v2).toNatClampNeg v1) (fun h10 => if x_b 4 6927 = true then if x_b 4 6927 = true then x_let (x_i h10 (x + 65) (4 : Int32).toNatClampNeg ((h10.1 (x + 65) (4 : Int32).toNatClampNeg) + 1)) (fun h13 => some ((v2 + 1), h13)) else none else none) else none else f_X12_moment_75 x q8.2) else f_X12_moment_75 x q6.2)
def f_X12_moment (x : Nat) (h : XH) (v1 : Int32) : Option (Int32 × XH) := x_let (x_i h (x + 64) 0 0) (fun h1 => if x_b 4 6927 = true then x_let ((h1.1 (x + 65) (4 : Int32).toNatClampNeg) : Int32) (fun t3 => if t3 = 0 then f_X12_moment_34 x h1 v1 t3 v1 0 else if x_b ((938 + t3) - 1) 6927 = true then f_X12_moment_34 x h1 v1 t3 v1 (h1.1 (x + 65) ((938 + t3) - 1).toNatClampNeg) else none) else none)
set_option maxRecDepth 20000 in
theorem B_X12_moment_75 {p : Program} {l : Launch} {e : Env} {s : State} {m : MethodId} {args : Array Value} {below : List Frame} {meth : Method} {c : Code} {O : XO} {K : XK} {r : Int32} {h' : XH}   (C : x_C p s m args meth c O cX12_moment 3 RX12 (some .int))   (ls : Array Slot) (H : Heap) (locs : List Loc) (h : XH) (hl : lv_has ls 3 []) (hR : x_R O K h H) (hS : va_S (oA O) s.heap H locs) (hf : f_X12_moment_75 (oX O) h = some (r, h')) : W p l e (x_rm 1 22) s m args below meth c H locs 0 0 (MQ below (x_Qc O K h' (some (.int r))) args s 0 0 (oA O)) (F0 m 75 ls []) := by
  have hx := C.1
  have hb := C.2.1
  rw [f_X12_moment_75] at hf
  refine lv_iconst (v := 0) hx hb dX12_moment_75 rfl ?_
  cases hf
  exact x_iret C hR hS dX12_moment_76
set_option maxRecDepth 20000 in
theorem B_X12_moment_34 {p : Program} {l : Launch} {e : Env} {s : State} {m : MethodId} {args : Array Value} {below : List Frame} {meth : Method} {c : Code} {O : XO} {K : XK} {r : Int32} {h' : XH}   (C : x_C p s m args meth c O cX12_moment 3 RX12 (some .int))   (ls : Array Slot) (H : Heap) (locs : List Loc) (h : XH) (v1 : Int32) (v2 : Int32) (s1 : Int32) (s2 : Int32) (hl : lv_has ls 3 [(0, .ref (oX O + 64)), (1, .int v1), (2, .int v2)]) (hR : x_R O K h H) (hS : va_S (oA O) s.heap H locs) (hf : f_X12_moment_34 (oX O) h v1 v2 s1 s2 = some (r, h')) : W p l e (x_rm 1 22) s m args below meth c H locs 0 0 (MQ below (x_Qc O K h' (some (.int r))) args s 0 0 (oA O)) (F0 m 34 ls [.int s2, .int s1, .ref (oX O + 64)]) := by
  have hx := C.1
  have hb := C.2.1
  rw [f_X12_moment_34] at hf
  have kM5 : ∀ (ls : Array Slot) (H : Heap) (locs : List Loc), lv_has ls 3 [(0, .ref (oX O + 64)), (1, .int v1), (2, .int v2)] → x_R O K h H → va_S (oA O) s.heap H locs → W p l e (x_rm 1 22) s m args below meth c H locs 0 0 (MQ below (x_Qc O K h' (some (.int r))) args s 0 0 (oA O)) (F0 m 49 ls [.int (if s1 ≤ s2 then 1 else (if v1 ≤ 99999 then 0 else 1)), .ref (oX O + 64)]) := by
    intro ls H locs hl hR hS
    refine lv_iconst (v := 1) hx hb dX12_moment_49 rfl ?_
    obtain ⟨q6, eq6, hf⟩ := x_bd hf
    refine x_cVi2 C hR hS (S_X12_throwsIf  eq6) (x_k hR 64 rfl) (by decide) rfl mf_X12_throwsIf tw_1741 (Nat.le_of_ble_eq_true rfl) (Nat.le_of_ble_eq_true rfl) hl.1 (Nat.le_of_ble_eq_true rfl) dX12_moment_50 ⟨Nat.le_refl _, Nat.le_refl _⟩ (fun H locs hR hS => ?_)
    refine lv_if_ne (tgt := 75) hx hb dX12_moment_53 rfl (fun hc => ?_) (fun hc => ?_)
    · have hf := x_in hc hf
      exact B_X12_moment_75  C   ls _ _ q6.2  (lv_sub hl [] rfl) hR hS hf
    · have hf := x_ip hc hf
      refine lv_aload_n hx hb dX12_moment_56 rfl (lv_at hl 0 rfl) ?_
      refine lv_iload_n hx hb dX12_moment_57 rfl (lv_at hl 2 rfl) ?_
      refine lv_bipush (v := 6) hx hb dX12_moment_58 rfl ?_
      have kM7 : ∀ (ls : Array Slot) (H : Heap) (locs : List Loc), lv_has ls 3 [(0, .ref (oX O + 64)), (1, .int v1), (2, .int v2)] → x_R O K q6.2 H → va_S (oA O) s.heap H locs → W p l e (x_rm 1 22) s m args below meth c H locs 0 0 (MQ below (x_Qc O K h' (some (.int r))) args s 0 0 (oA O)) (F0 m 68 ls [.int (if v2 = 6 then 1 else 0), .ref (oX O + 64)]) := by
        intro ls H locs hl hR hS
        refine lv_iconst (v := 2) hx hb dX12_moment_68 rfl ?_
        obtain ⟨q8, eq8, hf⟩ := x_bd hf
        refine x_cVi2 C hR hS (S_X12_throwsIf  eq8) (x_k hR 64 rfl) (by decide) rfl mf_X12_throwsIf tw_1741 (Nat.le_of_ble_eq_true rfl) (Nat.le_of_ble_eq_true rfl) hl.1 (Nat.le_of_ble_eq_true rfl) dX12_moment_69 ⟨Nat.le_refl _, Nat.le_refl _⟩ (fun H locs hR hS => ?_)
        refine lv_if_eq (tgt := 77) hx hb dX12_moment_72 rfl (fun hc => ?_) (fun hc => ?_)
        · have hf := x_ip hc hf
          refine lv_aload_n hx hb dX12_moment_77 rfl (lv_at hl 0 rfl) ?_
          refine gf_12_1 C hR (x_k hR 64 rfl) tw_1544 dX12_moment_78 ?_
          refine lv_sipush (v := 938) hx hb dX12_moment_81 rfl ?_
          refine lv_iload_n hx hb dX12_moment_84 rfl (lv_at hl 2 rfl) ?_
          refine lv_iadd hx hb dX12_moment_85 ?_
          refine lv_iload_n hx hb dX12_moment_86 rfl (lv_at hl 1 rfl) ?_
          obtain ⟨g9, hf⟩ := x_gd hf
          obtain ⟨h10, eh10, hf⟩ := x_lt hf
          refine x_iast C hR hS (x_k1 (x_k hR 65 rfl)) (x_k2 (x_k hR 65 rfl) g9) dX12_moment_87 (fun H locs hR hS => ?_)
          rw [← eh10] at hR
          refine lv_aload_n hx hb dX12_moment_88 rfl (lv_at hl 0 rfl) ?_
          refine gf_12_1 C hR (x_k hR 64 rfl) tw_1544 dX12_moment_89 ?_
          refine lv_iconst (v := 4) hx hb dX12_moment_92 rfl ?_
          refine lv_dup2_11 hx hb dX12_moment_93 rfl rfl ?_
          obtain ⟨g11, hf⟩ := x_gd hf
          refine x_iald C hR (x_k1 (x_k hR 65 rfl)) (x_k2 (x_k hR 65 rfl) g11) dX12_moment_94 ?_
          refine lv_iconst (v := 1) hx hb dX12_moment_95 rfl ?_
          refine lv_iadd hx hb dX12_moment_96 ?_
          obtain ⟨g12, hf⟩ := x_gd hf
          obtain ⟨h13, eh13, hf⟩ := x_lt hf
          refine x_iast C hR hS (x_k1 (x_k hR 65 rfl)) (x_k2 (x_k hR 65 rfl) g12) dX12_moment_97 (fun H locs hR hS => ?_)
          rw [← eh13] at hR
          refine lv_iload_n hx hb dX12_moment_98 rfl (lv_at hl 2 rfl) ?_
          refine lv_iconst (v := 1) hx hb dX12_moment_99 rfl ?_
          refine lv_iadd hx hb dX12_moment_100 ?_
          cases hf
          exact x_iret C hR hS dX12_moment_101
        · have hf := x_in hc hf
          exact B_X12_moment_75  C   ls _ _ q8.2  (lv_sub hl [] rfl) hR hS hf
      refine lv_icmp_ne (tgt := 67) hx hb dX12_moment_60 rfl (fun hc => ?_) (fun hc => ?_)
      · try simp only [if_neg hc] at kM7
        refine lv_iconst (v := 0) hx hb dX12_moment_67 rfl ?_
        exact kM7 ls _ _ (lv_sub hl [0, 1, 2] rfl) hR hS
      · try simp only [if_pos hc] at kM7
        refine lv_iconst (v := 1) hx hb dX12_moment_63 rfl ?_
        refine lv_goto (tgt := 68) hx hb dX12_moment_64 rfl ?_
        exact kM7 ls _ _ (lv_sub hl [0, 1, 2] rfl) hR hS
  refine lv_icmp_le (tgt := 44) hx hb dX12_moment_34 rfl (fun hc => ?_) (fun hc => ?_)
  · try simp only [if_pos hc] at kM5
    refine lv_iconst (v := 1) hx hb dX12_moment_44 rfl ?_
    refine lv_goto (tgt := 49) hx hb dX12_moment_45 rfl ?_
    exact kM5 ls _ _ (lv_sub hl [0, 1, 2] rfl) hR hS
  · try simp only [if_neg hc] at kM5
    refine lv_iload_n hx hb dX12_moment_37 rfl (lv_at hl 1 rfl) ?_
    refine lv_ldcw hx hb C.2.2.2.1 (C.2.2.2.2.1 _ tw_2019) dX12_moment_38 ?_
    refine lv_icmp_le (tgt := 48) hx hb dX12_moment_41 rfl (fun hc => ?_) (fun hc => ?_)
    · try simp only [if_pos hc] at kM5
      refine lv_iconst (v := 0) hx hb dX12_moment_48 rfl ?_
      exact kM5 ls _ _ (lv_sub hl [0, 1, 2] rfl) hR hS
    · try simp only [if_neg hc] at kM5
      refine lv_iconst (v := 1) hx hb dX12_moment_44 rfl ?_
      refine lv_goto (tgt := 49) hx hb dX12_moment_45 rfl ?_
      exact kM5 ls _ _ (lv_sub hl [0, 1, 2] rfl) hR hS
set_option maxRecDepth 20000 in
theorem S_X12_moment {l : Launch} {O : XO} {K : XK} {h : XH} {v1 : Int32}  {r : Int32} {h' : XH}  (hf : f_X12_moment (oX O) h v1 = some (r, h')) : x_M l O K yX12_moment cX12_moment 3 (some .int) 1 22 h [.ref (oX O + 64), .int v1] (some (.int r)) h' := by
  refine x_enter (by decide) (Nat.le_of_ble_eq_true rfl) (fun p e s m args below meth c C hR ls hl => ?_)
  have hS : va_S (oA O) s.heap s.heap [] := va_S.rf
  have hx := C.1
  have hb := C.2.1
  have hl : lv_has ls 3 [(0, .ref (oX O + 64)), (1, .int v1)] := hl
  rw [f_X12_moment] at hf
  refine lv_aload_n hx hb dX12_moment_0 rfl (lv_at hl 0 rfl) ?_
  refine lv_iconst (v := 0) hx hb dX12_moment_1 rfl ?_
  obtain ⟨h1, eh1, hf⟩ := x_lt hf
  refine pf_12_0 C hR hS (x_k hR 64 rfl) tw_1543 dX12_moment_2 (fun H locs hR hS => ?_)
  rw [← eh1] at hR
  refine lv_aload_n hx hb dX12_moment_5 rfl (lv_at hl 0 rfl) ?_
  refine gf_12_1 C hR (x_k hR 64 rfl) tw_1544 dX12_moment_6 ?_
  refine lv_iconst (v := 4) hx hb dX12_moment_9 rfl ?_
  obtain ⟨g2, hf⟩ := x_gd hf
  refine x_iald C hR (x_k1 (x_k hR 65 rfl)) (x_k2 (x_k hR 65 rfl) g2) dX12_moment_10 ?_
  obtain ⟨t3, et3, hf⟩ := x_lt hf
  refine x_nmi et3 ?_
  refine lv_istore_n (lv' := [(2, _), (0, _), (1, _)]) hx hb dX12_moment_11 rfl hl (Nat.le_of_ble_eq_true rfl) rfl (fun ls hl => ?_)
  refine lv_aload_n hx hb dX12_moment_12 rfl (lv_at hl 1 rfl) ?_
  refine lv_iload_n hx hb dX12_moment_13 rfl (lv_at hl 2 rfl) ?_
  refine lv_iload_n hx hb dX12_moment_14 rfl (lv_at hl 0 rfl) ?_
  refine lv_if_ne (tgt := 22) hx hb dX12_moment_15 rfl (fun hc => ?_) (fun hc => ?_)
  · have hf := x_in hc hf
    refine lv_aload_n hx hb dX12_moment_22 rfl (lv_at hl 1 rfl) ?_
    refine gf_12_1 C hR (x_k hR 64 rfl) tw_1544 dX12_moment_23 ?_
    refine lv_sipush (v := 938) hx hb dX12_moment_26 rfl ?_
    refine lv_iload_n hx hb dX12_moment_29 rfl (lv_at hl 0 rfl) ?_
    refine lv_iadd hx hb dX12_moment_30 ?_
    refine lv_iconst (v := 1) hx hb dX12_moment_31 rfl ?_
    refine lv_isub hx hb dX12_moment_32 ?_
    obtain ⟨g4, hf⟩ := x_gd hf
    refine x_iald C hR (x_k1 (x_k hR 65 rfl)) (x_k2 (x_k hR 65 rfl) g4) dX12_moment_33 ?_
    exact B_X12_moment_34  C   ls _ _ h1 _ _ _ _  (lv_sub hl [1, 2, 0] rfl) hR hS hf
  · have hf := x_ip hc hf
    refine lv_iconst (v := 0) hx hb dX12_moment_18 rfl ?_
    refine lv_goto (tgt := 34) hx hb dX12_moment_19 rfl ?_
    exact B_X12_moment_34  C   ls _ _ h1 _ _ _ _  (lv_sub hl [1, 2, 0] rfl) hR hS hf
def f_X12_moments (x : Nat) (h : XH) : Option (Int32 × XH) := x_let (x_i h (x + 64) 0 0) (fun h1 => if x_b 4 6927 = true then x_let ((h1.1 (x + 65) (4 : Int32).toNatClampNeg) : Int32) (fun t3 => if x_b 4 6927 = true then x_let (x_i h1 (x + 65) (4 : Int32).toNatClampNeg 0) (fun h5 => some (t3, h5)) else none) else none)
set_option maxRecDepth 20000 in
theorem S_X12_moments {l : Launch} {O : XO} {K : XK} {h : XH}  {r : Int32} {h' : XH}  (hf : f_X12_moments (oX O) h = some (r, h')) : x_M l O K yX12_moments cX12_moments 2 (some .int) 0 0 h [.ref (oX O + 64)] (some (.int r)) h' := by
  refine x_enter (by decide) (Nat.le_of_ble_eq_true rfl) (fun p e s m args below meth c C hR ls hl => ?_)
  have hS : va_S (oA O) s.heap s.heap [] := va_S.rf
  have hx := C.1
  have hb := C.2.1
  have hl : lv_has ls 2 [(0, .ref (oX O + 64))] := hl
  rw [f_X12_moments] at hf
  refine lv_aload_n hx hb dX12_moments_0 rfl (lv_at hl 0 rfl) ?_
  refine lv_iconst (v := 0) hx hb dX12_moments_1 rfl ?_
  obtain ⟨h1, eh1, hf⟩ := x_lt hf
  refine pf_12_0 C hR hS (x_k hR 64 rfl) tw_1543 dX12_moments_2 (fun H locs hR hS => ?_)
  rw [← eh1] at hR
  refine lv_aload_n hx hb dX12_moments_5 rfl (lv_at hl 0 rfl) ?_
  refine gf_12_1 C hR (x_k hR 64 rfl) tw_1544 dX12_moments_6 ?_
  refine lv_iconst (v := 4) hx hb dX12_moments_9 rfl ?_
  obtain ⟨g2, hf⟩ := x_gd hf
  refine x_iald C hR (x_k1 (x_k hR 65 rfl)) (x_k2 (x_k hR 65 rfl) g2) dX12_moments_10 ?_
  obtain ⟨t3, et3, hf⟩ := x_lt hf
  refine x_nmi et3 ?_
  refine lv_istore_n (lv' := [(1, _), (0, _)]) hx hb dX12_moments_11 rfl hl (Nat.le_of_ble_eq_true rfl) rfl (fun ls hl => ?_)
  refine lv_aload_n hx hb dX12_moments_12 rfl (lv_at hl 1 rfl) ?_
  refine gf_12_1 C hR (x_k hR 64 rfl) tw_1544 dX12_moments_13 ?_
  refine lv_iconst (v := 4) hx hb dX12_moments_16 rfl ?_
  refine lv_iconst (v := 0) hx hb dX12_moments_17 rfl ?_
  obtain ⟨g4, hf⟩ := x_gd hf
  obtain ⟨h5, eh5, hf⟩ := x_lt hf
  refine x_iast C hR hS (x_k1 (x_k hR 65 rfl)) (x_k2 (x_k hR 65 rfl) g4) dX12_moments_18 (fun H locs hR hS => ?_)
  rw [← eh5] at hR
  refine lv_iload_n hx hb dX12_moments_19 rfl (lv_at hl 0 rfl) ?_
  cases hf
  exact x_iret C hR hS dX12_moments_20
def f_X12_unlike_90 (k13 : XH → Int32 → Int32 → Int32 → Int32 → Int32 → Option (Int32 × XH)) (k26 : XH → Int32 → Int32 → Int32 → Int32 → Int32 → Int32 → Int32 → Option (Int32 × XH)) (x : Nat) (h : XH) (v1 : Int32) (v2 : Int32) (v3 : Int32) (v4 : Int32) (v5 : Int32) (v6 : Int32) (v7 : Int32) : Option (Int32 × XH) := k26 h v1 v2 v3 v4 v5 v6 (v7 + 1)
def f_X12_unlike_40 (k13 : XH → Int32 → Int32 → Int32 → Int32 → Int32 → Option (Int32 × XH)) (k26 : XH → Int32 → Int32 → Int32 → Int32 → Int32 → Int32 → Int32 → Option (Int32 × XH)) (x : Nat) : Nat → XH → Int32 → Int32 → Int32 → Int32 → Int32 → Int32 → Int32 → Int32 → Option (Int32 × XH)
  | 0, _, _, _, _, _, _, _, _, _ => none
  | n + 1, h, v1, v2, v3, v4, v5, v6, v7, v8 => Option.bind (f_X12_doors x h v7) (fun v_7 => if v_7 ≤ v8 then f_X12_unlike_90 k13 k26 x h v1 v2 v3 v4 v5 v6 v7 else if ((x_shr v1 v7) &&& 1) = 1 then Option.bind (f_X12_lookOf x h v7 v8) (fun v_8 => x_let ((v6 + (if v_8 = v5 then 1 else 0)) : Int32) (fun t10 => f_X12_unlike_40 k13 k26 x n h v1 v2 v3 v4 v5 t10 v7 (v8 + 1))) else f_X12_unlike_90 k13 k26 x h v1 v2 v3 v4 v5 v6 v7)
def f_X12_unlike_26 (k13 : XH → Int32 → Int32 → Int32 → Int32 → Int32 → Option (Int32 × XH)) (x : Nat) : Nat → XH → Int32 → Int32 → Int32 → Int32 → Int32 → Int32 → Int32 → Option (Int32 × XH)
  | 0, _, _, _, _, _, _, _, _ => none
  | n + 1, h, v1, v2, v3, v4, v5, v6, v7 => if x_b 0 6927 = true then if (h.1 (x + 65) (0 : Int32).toNatClampNeg) ≤ v7 then x_let ((v3 + (if v6 ≤ 0 then 0 else 1)) : Int32) (fun t5 => x_let ((v4 + ((v6 * (v6 - 1)) / 2)) : Int32) (fun t6 => k13 h v1 v2 t5 t6 (v5 + 1))) else f_X12_unlike_40 k13 (f_X12_unlike_26 k13 x n) x x_FU h v1 v2 v3 v4 v5 v6 v7 0 else none
def f_X12_unlike_13 (x : Nat) : Nat → XH → Int32 → Int32 → Int32 → Int32 → Int32 → Option (Int32 × XH)
  | 0, _, _, _, _, _, _ => none
  | n + 1, h, v1, v2, v3, v4, v5 => if 10 ≤ v5 then some ((if v2 = 0 then v3 else v4), h) else f_X12_unlike_26 (f_X12_unlike_13 x n) x x_FU h v1 v2 v3 v4 v5 0 0
def f_X12_unlike (x : Nat) (h : XH) (v1 : Int32) (v2 : Int32) : Option (Int32 × XH) := x_let (x_i h (x + 64) 0 0) (fun h1 => f_X12_unlike_13 x x_FU h1 v1 v2 0 0 0)
set_option maxRecDepth 20000 in
theorem B_X12_unlike_90 {p : Program} {l : Launch} {e : Env} {s : State} {m : MethodId} {args : Array Value} {below : List Frame} {meth : Method} {c : Code} {O : XO} {K : XK} {r : Int32} {h' : XH}  {k13 : XH → Int32 → Int32 → Int32 → Int32 → Int32 → Option (Int32 × XH)} {k26 : XH → Int32 → Int32 → Int32 → Int32 → Int32 → Int32 → Int32 → Option (Int32 × XH)} (C : x_C p s m args meth c O cX12_unlike 9 RX12 (some .int)) (hk13 : ∀ (ls : Array Slot) (H : Heap) (locs : List Loc) (h : XH) (v1 : Int32) (v2 : Int32) (v3 : Int32) (v4 : Int32) (v5 : Int32), lv_has ls 9 [(0, .ref (oX O + 64)), (1, .int v1), (2, .int v2), (3, .int v3), (4, .int v4), (5, .int v5)] → x_R O K h H → va_S (oA O) s.heap H locs → k13 h v1 v2 v3 v4 v5 = some (r, h') → W p l e (x_rm 1 22) s m args below meth c H locs 0 0 (MQ below (x_Qc O K h' (some (.int r))) args s 0 0 (oA O)) (F0 m 13 ls [])) (hk26 : ∀ (ls : Array Slot) (H : Heap) (locs : List Loc) (h : XH) (v1 : Int32) (v2 : Int32) (v3 : Int32) (v4 : Int32) (v5 : Int32) (v6 : Int32) (v7 : Int32), lv_has ls 9 [(0, .ref (oX O + 64)), (1, .int v1), (2, .int v2), (3, .int v3), (4, .int v4), (5, .int v5), (6, .int v6), (7, .int v7)] → x_R O K h H → va_S (oA O) s.heap H locs → k26 h v1 v2 v3 v4 v5 v6 v7 = some (r, h') → W p l e (x_rm 1 22) s m args below meth c H locs 0 0 (MQ below (x_Qc O K h' (some (.int r))) args s 0 0 (oA O)) (F0 m 26 ls []))  (ls : Array Slot) (H : Heap) (locs : List Loc) (h : XH) (v1 : Int32) (v2 : Int32) (v3 : Int32) (v4 : Int32) (v5 : Int32) (v6 : Int32) (v7 : Int32) (hl : lv_has ls 9 [(0, .ref (oX O + 64)), (1, .int v1), (2, .int v2), (3, .int v3), (4, .int v4), (5, .int v5), (6, .int v6), (7, .int v7)]) (hR : x_R O K h H) (hS : va_S (oA O) s.heap H locs) (hf : f_X12_unlike_90 k13 k26 (oX O) h v1 v2 v3 v4 v5 v6 v7 = some (r, h')) : W p l e (x_rm 1 22) s m args below meth c H locs 0 0 (MQ below (x_Qc O K h' (some (.int r))) args s 0 0 (oA O)) (F0 m 90 ls []) := by
  have hx := C.1
  have hb := C.2.1
  rw [f_X12_unlike_90] at hf
  refine lv_iinc (k := 7) (v := _ + 1) (lv' := [(7, _), (0, _), (1, _), (2, _), (3, _), (4, _), (5, _), (6, _)]) hx hb dX12_unlike_90 hl rfl (x_inc 1 1 rfl _) (Nat.le_of_ble_eq_true rfl) rfl (fun ls hl => ?_)
  refine lv_goto (tgt := 26) hx hb dX12_unlike_93 rfl ?_
  exact hk26 ls _ _ h _ _ _ _ _ _ _  (lv_sub hl [1, 2, 3, 4, 5, 6, 7, 0] rfl) hR hS hf
set_option maxRecDepth 20000 in
theorem B_X12_unlike_40 {p : Program} {l : Launch} {e : Env} {s : State} {m : MethodId} {args : Array Value} {below : List Frame} {meth : Method} {c : Code} {O : XO} {K : XK} {r : Int32} {h' : XH}  {k13 : XH → Int32 → Int32 → Int32 → Int32 → Int32 → Option (Int32 × XH)} {k26 : XH → Int32 → Int32 → Int32 → Int32 → Int32 → Int32 → Int32 → Option (Int32 × XH)} (C : x_C p s m args meth c O cX12_unlike 9 RX12 (some .int)) (hk13 : ∀ (ls : Array Slot) (H : Heap) (locs : List Loc) (h : XH) (v1 : Int32) (v2 : Int32) (v3 : Int32) (v4 : Int32) (v5 : Int32), lv_has ls 9 [(0, .ref (oX O + 64)), (1, .int v1), (2, .int v2), (3, .int v3), (4, .int v4), (5, .int v5)] → x_R O K h H → va_S (oA O) s.heap H locs → k13 h v1 v2 v3 v4 v5 = some (r, h') → W p l e (x_rm 1 22) s m args below meth c H locs 0 0 (MQ below (x_Qc O K h' (some (.int r))) args s 0 0 (oA O)) (F0 m 13 ls [])) (hk26 : ∀ (ls : Array Slot) (H : Heap) (locs : List Loc) (h : XH) (v1 : Int32) (v2 : Int32) (v3 : Int32) (v4 : Int32) (v5 : Int32) (v6 : Int32) (v7 : Int32), lv_has ls 9 [(0, .ref (oX O + 64)), (1, .int v1), (2, .int v2), (3, .int v3), (4, .int v4), (5, .int v5), (6, .int v6), (7, .int v7)] → x_R O K h H → va_S (oA O) s.heap H locs → k26 h v1 v2 v3 v4 v5 v6 v7 = some (r, h') → W p l e (x_rm 1 22) s m args below meth c H locs 0 0 (MQ below (x_Qc O K h' (some (.int r))) args s 0 0 (oA O)) (F0 m 26 ls []))  : ∀ (n : Nat) (ls : Array Slot) (H : Heap) (locs : List Loc) (h : XH) (v1 : Int32) (v2 : Int32) (v3 : Int32) (v4 : Int32) (v5 : Int32) (v6 : Int32) (v7 : Int32) (v8 : Int32) (hl : lv_has ls 9 [(0, .ref (oX O + 64)), (1, .int v1), (2, .int v2), (3, .int v3), (4, .int v4), (5, .int v5), (6, .int v6), (7, .int v7), (8, .int v8)]) (hR : x_R O K h H) (hS : va_S (oA O) s.heap H locs) (hf : f_X12_unlike_40 k13 k26 (oX O) n h v1 v2 v3 v4 v5 v6 v7 v8 = some (r, h')), W p l e (x_rm 1 22) s m args below meth c H locs 0 0 (MQ below (x_Qc O K h' (some (.int r))) args s 0 0 (oA O)) (F0 m 40 ls []) := by
  have hx := C.1
  have hb := C.2.1
  intro n
  induction n with
  | zero =>
    intro ls H locs h v1 v2 v3 v4 v5 v6 v7 v8 hl hR hS hf
    rw [f_X12_unlike_40] at hf
    cases hf
  | succ n ih =>
    intro ls H locs h v1 v2 v3 v4 v5 v6 v7 v8 hl hR hS hf
    rw [f_X12_unlike_40] at hf
    refine lv_iload hx hb dX12_unlike_40 (lv_at hl 8 rfl) ?_
    refine lv_aload_n hx hb dX12_unlike_42 rfl (lv_at hl 0 rfl) ?_
    refine lv_iload hx hb dX12_unlike_43 (lv_at hl 7 rfl) ?_
    obtain ⟨v_7, ev_7, hf⟩ := x_bd hf
    refine x_cVi1 C hR hS (S_X12_doors  ev_7) (x_k hR 64 rfl) (by decide) rfl mf_X12_doors tw_1782 (Nat.le_of_ble_eq_true rfl) (Nat.le_of_ble_eq_true rfl) hl.1 (Nat.le_of_ble_eq_true rfl) dX12_unlike_45 ⟨Nat.le_refl _, Nat.le_refl _⟩ (fun H locs hR hS => ?_)
    refine lv_icmp_ge (tgt := 90) hx hb dX12_unlike_48 rfl (fun hc => ?_) (fun hc => ?_)
    · have hf := x_ip hc hf
      exact B_X12_unlike_90  C hk13 hk26  ls _ _ h _ _ _ _ _ _ _  (lv_sub hl [0, 1, 2, 3, 4, 5, 6, 7] rfl) hR hS hf
    · have hf := x_in hc hf
      refine lv_iload_n hx hb dX12_unlike_51 rfl (lv_at hl 1 rfl) ?_
      refine lv_iload hx hb dX12_unlike_52 (lv_at hl 7 rfl) ?_
      refine lv_ishr hx hb dX12_unlike_54 ?_
      refine lv_iconst (v := 1) hx hb dX12_unlike_55 rfl ?_
      refine lv_iand hx hb dX12_unlike_56 ?_
      refine lv_iconst (v := 1) hx hb dX12_unlike_57 rfl ?_
      refine lv_icmp_ne (tgt := 90) hx hb dX12_unlike_58 rfl (fun hc => ?_) (fun hc => ?_)
      · have hf := x_in hc hf
        exact B_X12_unlike_90  C hk13 hk26  ls _ _ h _ _ _ _ _ _ _  (lv_sub hl [0, 1, 2, 3, 4, 5, 6, 7] rfl) hR hS hf
      · have hf := x_ip hc hf
        refine lv_iload hx hb dX12_unlike_61 (lv_at hl 6 rfl) ?_
        refine lv_aload_n hx hb dX12_unlike_63 rfl (lv_at hl 0 rfl) ?_
        refine lv_iload hx hb dX12_unlike_64 (lv_at hl 7 rfl) ?_
        refine lv_iload hx hb dX12_unlike_66 (lv_at hl 8 rfl) ?_
        obtain ⟨v_8, ev_8, hf⟩ := x_bd hf
        refine x_cVi2 C hR hS (S_X12_lookOf  ev_8) (x_k hR 64 rfl) (by decide) rfl mf_X12_lookOf tw_1873 (Nat.le_of_ble_eq_true rfl) (Nat.le_of_ble_eq_true rfl) hl.1 (Nat.le_of_ble_eq_true rfl) dX12_unlike_68 ⟨Nat.le_refl _, Nat.le_refl _⟩ (fun H locs hR hS => ?_)
        refine lv_iload hx hb dX12_unlike_71 (lv_at hl 5 rfl) ?_
        have kM9 : ∀ (ls : Array Slot) (H : Heap) (locs : List Loc), lv_has ls 9 [(0, .ref (oX O + 64)), (1, .int v1), (2, .int v2), (3, .int v3), (4, .int v4), (5, .int v5), (7, .int v7), (8, .int v8)] → x_R O K h H → va_S (oA O) s.heap H locs → W p l e (x_rm 1 22) s m args below meth c H locs 0 0 (MQ below (x_Qc O K h' (some (.int r))) args s 0 0 (oA O)) (F0 m 81 ls [.int (if v_8 = v5 then 1 else 0), .int v6]) := by
          intro ls H locs hl hR hS
          refine lv_iadd hx hb dX12_unlike_81 ?_
          obtain ⟨t10, et10, hf⟩ := x_lt hf
          refine x_nmi et10 ?_
          refine lv_istore (lv' := [(6, _), (0, _), (1, _), (2, _), (3, _), (4, _), (5, _), (7, _), (8, _)]) hx hb dX12_unlike_82 hl (Nat.le_of_ble_eq_true rfl) rfl (fun ls hl => ?_)
          refine lv_iinc (k := 8) (v := _ + 1) (lv' := [(8, _), (6, _), (0, _), (1, _), (2, _), (3, _), (4, _), (5, _), (7, _)]) hx hb dX12_unlike_84 hl rfl (x_inc 1 1 rfl _) (Nat.le_of_ble_eq_true rfl) rfl (fun ls hl => ?_)
          refine lv_goto (tgt := 40) hx hb dX12_unlike_87 rfl ?_
          exact ih ls _ _ h _ _ _ _ _ _ _ _  (lv_sub hl [2, 3, 4, 5, 6, 7, 1, 8, 0] rfl) hR hS hf
        refine lv_icmp_ne (tgt := 80) hx hb dX12_unlike_73 rfl (fun hc => ?_) (fun hc => ?_)
        · try simp only [if_neg hc] at kM9
          refine lv_iconst (v := 0) hx hb dX12_unlike_80 rfl ?_
          exact kM9 ls _ _ (lv_sub hl [0, 1, 2, 3, 4, 5, 7, 8] rfl) hR hS
        · try simp only [if_pos hc] at kM9
          refine lv_iconst (v := 1) hx hb dX12_unlike_76 rfl ?_
          refine lv_goto (tgt := 81) hx hb dX12_unlike_77 rfl ?_
          exact kM9 ls _ _ (lv_sub hl [0, 1, 2, 3, 4, 5, 7, 8] rfl) hR hS
set_option maxRecDepth 20000 in
theorem B_X12_unlike_26 {p : Program} {l : Launch} {e : Env} {s : State} {m : MethodId} {args : Array Value} {below : List Frame} {meth : Method} {c : Code} {O : XO} {K : XK} {r : Int32} {h' : XH}  {k13 : XH → Int32 → Int32 → Int32 → Int32 → Int32 → Option (Int32 × XH)} (C : x_C p s m args meth c O cX12_unlike 9 RX12 (some .int)) (hk13 : ∀ (ls : Array Slot) (H : Heap) (locs : List Loc) (h : XH) (v1 : Int32) (v2 : Int32) (v3 : Int32) (v4 : Int32) (v5 : Int32), lv_has ls 9 [(0, .ref (oX O + 64)), (1, .int v1), (2, .int v2), (3, .int v3), (4, .int v4), (5, .int v5)] → x_R O K h H → va_S (oA O) s.heap H locs → k13 h v1 v2 v3 v4 v5 = some (r, h') → W p l e (x_rm 1 22) s m args below meth c H locs 0 0 (MQ below (x_Qc O K h' (some (.int r))) args s 0 0 (oA O)) (F0 m 13 ls []))  : ∀ (n : Nat) (ls : Array Slot) (H : Heap) (locs : List Loc) (h : XH) (v1 : Int32) (v2 : Int32) (v3 : Int32) (v4 : Int32) (v5 : Int32) (v6 : Int32) (v7 : Int32) (hl : lv_has ls 9 [(0, .ref (oX O + 64)), (1, .int v1), (2, .int v2), (3, .int v3), (4, .int v4), (5, .int v5), (6, .int v6), (7, .int v7)]) (hR : x_R O K h H) (hS : va_S (oA O) s.heap H locs) (hf : f_X12_unlike_26 k13 (oX O) n h v1 v2 v3 v4 v5 v6 v7 = some (r, h')), W p l e (x_rm 1 22) s m args below meth c H locs 0 0 (MQ below (x_Qc O K h' (some (.int r))) args s 0 0 (oA O)) (F0 m 26 ls []) := by
  have hx := C.1
  have hb := C.2.1
  intro n
  induction n with
  | zero =>
    intro ls H locs h v1 v2 v3 v4 v5 v6 v7 hl hR hS hf
    rw [f_X12_unlike_26] at hf
    cases hf
  | succ n ih =>
    intro ls H locs h v1 v2 v3 v4 v5 v6 v7 hl hR hS hf
    rw [f_X12_unlike_26] at hf
    refine lv_iload hx hb dX12_unlike_26 (lv_at hl 7 rfl) ?_
    refine lv_aload_n hx hb dX12_unlike_28 rfl (lv_at hl 0 rfl) ?_
    refine gf_12_1 C hR (x_k hR 64 rfl) tw_1544 dX12_unlike_29 ?_
    refine lv_iconst (v := 0) hx hb dX12_unlike_32 rfl ?_
    obtain ⟨g3, hf⟩ := x_gd hf
    refine x_iald C hR (x_k1 (x_k hR 65 rfl)) (x_k2 (x_k hR 65 rfl) g3) dX12_unlike_33 ?_
    refine lv_icmp_ge (tgt := 96) hx hb dX12_unlike_34 rfl (fun hc => ?_) (fun hc => ?_)
    · have hf := x_ip hc hf
      refine lv_iload_n hx hb dX12_unlike_96 rfl (lv_at hl 3 rfl) ?_
      refine lv_iload hx hb dX12_unlike_97 (lv_at hl 6 rfl) ?_
      have kM4 : ∀ (ls : Array Slot) (H : Heap) (locs : List Loc), lv_has ls 9 [(0, .ref (oX O + 64)), (1, .int v1), (2, .int v2), (4, .int v4), (5, .int v5), (6, .int v6)] → x_R O K h H → va_S (oA O) s.heap H locs → W p l e (x_rm 1 22) s m args below meth c H locs 0 0 (MQ below (x_Qc O K h' (some (.int r))) args s 0 0 (oA O)) (F0 m 107 ls [.int (if v6 ≤ 0 then 0 else 1), .int v3]) := by
        intro ls H locs hl hR hS
        refine lv_iadd hx hb dX12_unlike_107 ?_
        obtain ⟨t5, et5, hf⟩ := x_lt hf
        refine x_nmi et5 ?_
        refine lv_istore_n (lv' := [(3, _), (0, _), (1, _), (2, _), (4, _), (5, _), (6, _)]) hx hb dX12_unlike_108 rfl hl (Nat.le_of_ble_eq_true rfl) rfl (fun ls hl => ?_)
        refine lv_iload hx hb dX12_unlike_109 (lv_at hl 4 rfl) ?_
        refine lv_iload hx hb dX12_unlike_111 (lv_at hl 6 rfl) ?_
        refine lv_iload hx hb dX12_unlike_113 (lv_at hl 6 rfl) ?_
        refine lv_iconst (v := 1) hx hb dX12_unlike_115 rfl ?_
        refine lv_isub hx hb dX12_unlike_116 ?_
        refine lv_imul hx hb dX12_unlike_117 ?_
        refine lv_iconst (v := 2) hx hb dX12_unlike_118 rfl ?_
        refine lv_idiv hx hb dX12_unlike_119 (by decide) ?_
        refine lv_iadd hx hb dX12_unlike_120 ?_
        obtain ⟨t6, et6, hf⟩ := x_lt hf
        refine x_nmi et6 ?_
        refine lv_istore (lv' := [(4, _), (3, _), (0, _), (1, _), (2, _), (5, _), (6, _)]) hx hb dX12_unlike_121 hl (Nat.le_of_ble_eq_true rfl) rfl (fun ls hl => ?_)
        refine lv_iinc (k := 5) (v := _ + 1) (lv' := [(5, _), (4, _), (3, _), (0, _), (1, _), (2, _), (6, _)]) hx hb dX12_unlike_123 hl rfl (x_inc 1 1 rfl _) (Nat.le_of_ble_eq_true rfl) rfl (fun ls hl => ?_)
        refine lv_goto (tgt := 13) hx hb dX12_unlike_126 rfl ?_
        exact hk13 ls _ _ h _ _ _ _ _  (lv_sub hl [3, 4, 5, 2, 1, 0] rfl) hR hS hf
      refine lv_if_le (tgt := 106) hx hb dX12_unlike_99 rfl (fun hc => ?_) (fun hc => ?_)
      · try simp only [if_pos hc] at kM4
        refine lv_iconst (v := 0) hx hb dX12_unlike_106 rfl ?_
        exact kM4 ls _ _ (lv_sub hl [0, 1, 2, 4, 5, 6] rfl) hR hS
      · try simp only [if_neg hc] at kM4
        refine lv_iconst (v := 1) hx hb dX12_unlike_102 rfl ?_
        refine lv_goto (tgt := 107) hx hb dX12_unlike_103 rfl ?_
        exact kM4 ls _ _ (lv_sub hl [0, 1, 2, 4, 5, 6] rfl) hR hS
    · have hf := x_in hc hf
      refine lv_iconst (v := 0) hx hb dX12_unlike_37 rfl ?_
      refine lv_istore (lv' := [(8, _), (0, _), (1, _), (2, _), (3, _), (4, _), (5, _), (6, _), (7, _)]) hx hb dX12_unlike_38 hl (Nat.le_of_ble_eq_true rfl) rfl (fun ls hl => ?_)
      exact B_X12_unlike_40  C hk13 ih x_FU ls _ _ h _ _ _ _ _ _ _ _  (lv_sub hl [1, 2, 3, 4, 5, 6, 7, 8, 0] rfl) hR hS hf
set_option maxRecDepth 20000 in
theorem B_X12_unlike_13 {p : Program} {l : Launch} {e : Env} {s : State} {m : MethodId} {args : Array Value} {below : List Frame} {meth : Method} {c : Code} {O : XO} {K : XK} {r : Int32} {h' : XH}   (C : x_C p s m args meth c O cX12_unlike 9 RX12 (some .int))   : ∀ (n : Nat) (ls : Array Slot) (H : Heap) (locs : List Loc) (h : XH) (v1 : Int32) (v2 : Int32) (v3 : Int32) (v4 : Int32) (v5 : Int32) (hl : lv_has ls 9 [(0, .ref (oX O + 64)), (1, .int v1), (2, .int v2), (3, .int v3), (4, .int v4), (5, .int v5)]) (hR : x_R O K h H) (hS : va_S (oA O) s.heap H locs) (hf : f_X12_unlike_13 (oX O) n h v1 v2 v3 v4 v5 = some (r, h')), W p l e (x_rm 1 22) s m args below meth c H locs 0 0 (MQ below (x_Qc O K h' (some (.int r))) args s 0 0 (oA O)) (F0 m 13 ls []) := by
  have hx := C.1
  have hb := C.2.1
  intro n
  induction n with
  | zero =>
    intro ls H locs h v1 v2 v3 v4 v5 hl hR hS hf
    rw [f_X12_unlike_13] at hf
    cases hf
  | succ n ih =>
    intro ls H locs h v1 v2 v3 v4 v5 hl hR hS hf
    rw [f_X12_unlike_13] at hf
    refine lv_iload hx hb dX12_unlike_13 (lv_at hl 5 rfl) ?_
    refine lv_bipush (v := 10) hx hb dX12_unlike_15 rfl ?_
    refine lv_icmp_ge (tgt := 129) hx hb dX12_unlike_17 rfl (fun hc => ?_) (fun hc => ?_)
    · have hf := x_ip hc hf
      refine lv_iload_n hx hb dX12_unlike_129 rfl (lv_at hl 2 rfl) ?_
      have kM2 : ∀ (ls : Array Slot) (H : Heap) (locs : List Loc), lv_has ls 9 [] → x_R O K h H → va_S (oA O) s.heap H locs → W p l e (x_rm 1 22) s m args below meth c H locs 0 0 (MQ below (x_Qc O K h' (some (.int r))) args s 0 0 (oA O)) (F0 m 139 ls [.int (if v2 = 0 then v3 else v4)]) := by
        intro ls H locs hl hR hS
        cases hf
        exact x_iret C hR hS dX12_unlike_139
      refine lv_if_eq (tgt := 138) hx hb dX12_unlike_130 rfl (fun hc => ?_) (fun hc => ?_)
      · try simp only [if_pos hc] at kM2
        refine lv_iload_n hx hb dX12_unlike_138 rfl (lv_at hl 3 rfl) ?_
        exact kM2 ls _ _ (lv_sub hl [] rfl) hR hS
      · try simp only [if_neg hc] at kM2
        refine lv_iload hx hb dX12_unlike_133 (lv_at hl 4 rfl) ?_
        refine lv_goto (tgt := 139) hx hb dX12_unlike_135 rfl ?_
        exact kM2 ls _ _ (lv_sub hl [] rfl) hR hS
    · have hf := x_in hc hf
      refine lv_iconst (v := 0) hx hb dX12_unlike_20 rfl ?_
      refine lv_istore (lv' := [(6, _), (0, _), (1, _), (2, _), (3, _), (4, _), (5, _)]) hx hb dX12_unlike_21 hl (Nat.le_of_ble_eq_true rfl) rfl (fun ls hl => ?_)
      refine lv_iconst (v := 0) hx hb dX12_unlike_23 rfl ?_
      refine lv_istore (lv' := [(7, _), (6, _), (0, _), (1, _), (2, _), (3, _), (4, _), (5, _)]) hx hb dX12_unlike_24 hl (Nat.le_of_ble_eq_true rfl) rfl (fun ls hl => ?_)
      exact B_X12_unlike_26  C ih x_FU ls _ _ h _ _ _ _ _ _ _  (lv_sub hl [2, 3, 4, 5, 6, 7, 1, 0] rfl) hR hS hf
set_option maxRecDepth 20000 in
theorem S_X12_unlike {l : Launch} {O : XO} {K : XK} {h : XH} {v1 : Int32} {v2 : Int32}  {r : Int32} {h' : XH}  (hf : f_X12_unlike (oX O) h v1 v2 = some (r, h')) : x_M l O K yX12_unlike cX12_unlike 9 (some .int) 1 22 h [.ref (oX O + 64), .int v1, .int v2] (some (.int r)) h' := by
  refine x_enter (by decide) (Nat.le_of_ble_eq_true rfl) (fun p e s m args below meth c C hR ls hl => ?_)
  have hS : va_S (oA O) s.heap s.heap [] := va_S.rf
  have hx := C.1
  have hb := C.2.1
  have hl : lv_has ls 9 [(0, .ref (oX O + 64)), (1, .int v1), (2, .int v2)] := hl
  rw [f_X12_unlike] at hf
  refine lv_aload_n hx hb dX12_unlike_0 rfl (lv_at hl 0 rfl) ?_
  refine lv_iconst (v := 0) hx hb dX12_unlike_1 rfl ?_
  obtain ⟨h1, eh1, hf⟩ := x_lt hf
  refine pf_12_0 C hR hS (x_k hR 64 rfl) tw_1543 dX12_unlike_2 (fun H locs hR hS => ?_)
  rw [← eh1] at hR
  refine lv_iconst (v := 0) hx hb dX12_unlike_5 rfl ?_
  refine lv_istore_n (lv' := [(3, _), (0, _), (1, _), (2, _)]) hx hb dX12_unlike_6 rfl hl (Nat.le_of_ble_eq_true rfl) rfl (fun ls hl => ?_)
  refine lv_iconst (v := 0) hx hb dX12_unlike_7 rfl ?_
  refine lv_istore (lv' := [(4, _), (3, _), (0, _), (1, _), (2, _)]) hx hb dX12_unlike_8 hl (Nat.le_of_ble_eq_true rfl) rfl (fun ls hl => ?_)
  refine lv_iconst (v := 0) hx hb dX12_unlike_10 rfl ?_
  refine lv_istore (lv' := [(5, _), (4, _), (3, _), (0, _), (1, _), (2, _)]) hx hb dX12_unlike_11 hl (Nat.le_of_ble_eq_true rfl) rfl (fun ls hl => ?_)
  exact B_X12_unlike_13  C  x_FU ls _ _ h1 _ _ _ _ _  (lv_sub hl [3, 4, 5, 2, 1, 0] rfl) hR hS hf
def f_X12_chance (x : Nat) (h : XH) (v1 : Int32) (v2 : Int32) : Option (XH) := x_let (x_i h (x + 64) 0 0) (fun h1 => Option.bind (f_X12_throwsIf x h1 (if (f_X12_in h1 v1 1 6) = 0 then 1 else (if (f_X12_in h1 v2 0 100) = 0 then 1 else 0)) 1) (fun q3 => if q3.1 = 0 then if x_b ((964 + v1) - 1) 6927 = true then x_let (x_i q3.2 (x + 65) ((964 + v1) - 1).toNatClampNeg v2) (fun h5 => some h5) else none else some q3.2))
set_option maxRecDepth 20000 in
theorem S_X12_chance {l : Launch} {O : XO} {K : XK} {h : XH} {v1 : Int32} {v2 : Int32}  {h' : XH}  (hf : f_X12_chance (oX O) h v1 v2 = some h') : x_M l O K yX12_chance cX12_chance 3 none 1 22 h [.ref (oX O + 64), .int v1, .int v2] none h' := by
  refine x_enter (by decide) (Nat.le_of_ble_eq_true rfl) (fun p e s m args below meth c C hR ls hl => ?_)
  have hS : va_S (oA O) s.heap s.heap [] := va_S.rf
  have hx := C.1
  have hb := C.2.1
  have hl : lv_has ls 3 [(0, .ref (oX O + 64)), (1, .int v1), (2, .int v2)] := hl
  rw [f_X12_chance] at hf
  refine lv_aload_n hx hb dX12_chance_0 rfl (lv_at hl 0 rfl) ?_
  refine lv_iconst (v := 0) hx hb dX12_chance_1 rfl ?_
  obtain ⟨h1, eh1, hf⟩ := x_lt hf
  refine pf_12_0 C hR hS (x_k hR 64 rfl) tw_1543 dX12_chance_2 (fun H locs hR hS => ?_)
  rw [← eh1] at hR
  refine lv_aload_n hx hb dX12_chance_5 rfl (lv_at hl 0 rfl) ?_
  refine lv_iload_n hx hb dX12_chance_6 rfl (lv_at hl 1 rfl) ?_
  refine lv_iconst (v := 1) hx hb dX12_chance_7 rfl ?_
  refine lv_bipush (v := 6) hx hb dX12_chance_8 rfl ?_
  refine x_cSi3 C hR hS (S_X12_in  rfl) mf_X12_in tw_1756 (Nat.le_of_ble_eq_true rfl) (Nat.le_of_ble_eq_true rfl) hl.1 (Nat.le_of_ble_eq_true rfl) dX12_chance_10 ⟨Nat.le_refl _, Nat.le_refl _⟩ (fun H locs hR hS => ?_)
  have kM2 : ∀ (ls : Array Slot) (H : Heap) (locs : List Loc), lv_has ls 3 [(0, .ref (oX O + 64)), (1, .int v1), (2, .int v2)] → x_R O K h1 H → va_S (oA O) s.heap H locs → W p l e (x_rm 1 22) s m args below meth c H locs 0 0 (MQ below (x_Qc O K h' none) args s 0 0 (oA O)) (F0 m 31 ls [.int (if (f_X12_in h1 v1 1 6) = 0 then 1 else (if (f_X12_in h1 v2 0 100) = 0 then 1 else 0)), .ref (oX O + 64)]) := by
    intro ls H locs hl hR hS
    refine lv_iconst (v := 1) hx hb dX12_chance_31 rfl ?_
    obtain ⟨q3, eq3, hf⟩ := x_bd hf
    refine x_cVi2 C hR hS (S_X12_throwsIf  eq3) (x_k hR 64 rfl) (by decide) rfl mf_X12_throwsIf tw_1741 (Nat.le_of_ble_eq_true rfl) (Nat.le_of_ble_eq_true rfl) hl.1 (Nat.le_of_ble_eq_true rfl) dX12_chance_32 ⟨Nat.le_refl _, Nat.le_refl _⟩ (fun H locs hR hS => ?_)
    refine lv_if_eq (tgt := 39) hx hb dX12_chance_35 rfl (fun hc => ?_) (fun hc => ?_)
    · have hf := x_ip hc hf
      refine lv_aload_n hx hb dX12_chance_39 rfl (lv_at hl 0 rfl) ?_
      refine gf_12_1 C hR (x_k hR 64 rfl) tw_1544 dX12_chance_40 ?_
      refine lv_sipush (v := 964) hx hb dX12_chance_43 rfl ?_
      refine lv_iload_n hx hb dX12_chance_46 rfl (lv_at hl 1 rfl) ?_
      refine lv_iadd hx hb dX12_chance_47 ?_
      refine lv_iconst (v := 1) hx hb dX12_chance_48 rfl ?_
      refine lv_isub hx hb dX12_chance_49 ?_
      refine lv_iload_n hx hb dX12_chance_50 rfl (lv_at hl 2 rfl) ?_
      obtain ⟨g4, hf⟩ := x_gd hf
      obtain ⟨h5, eh5, hf⟩ := x_lt hf
      refine x_iast C hR hS (x_k1 (x_k hR 65 rfl)) (x_k2 (x_k hR 65 rfl) g4) dX12_chance_51 (fun H locs hR hS => ?_)
      rw [← eh5] at hR
      cases hf
      exact x_vret C hR hS dX12_chance_52
    · have hf := x_in hc hf
      cases hf
      exact x_vret C hR hS dX12_chance_38
  refine lv_if_eq (tgt := 26) hx hb dX12_chance_13 rfl (fun hc => ?_) (fun hc => ?_)
  · try simp only [if_pos hc] at kM2
    refine lv_iconst (v := 1) hx hb dX12_chance_26 rfl ?_
    refine lv_goto (tgt := 31) hx hb dX12_chance_27 rfl ?_
    exact kM2 ls _ _ (lv_sub hl [0, 1, 2] rfl) hR hS
  · try simp only [if_neg hc] at kM2
    refine lv_iload_n hx hb dX12_chance_16 rfl (lv_at hl 2 rfl) ?_
    refine lv_iconst (v := 0) hx hb dX12_chance_17 rfl ?_
    refine lv_bipush (v := 100) hx hb dX12_chance_18 rfl ?_
    refine x_cSi3 C hR hS (S_X12_in  rfl) mf_X12_in tw_1756 (Nat.le_of_ble_eq_true rfl) (Nat.le_of_ble_eq_true rfl) hl.1 (Nat.le_of_ble_eq_true rfl) dX12_chance_20 ⟨Nat.le_refl _, Nat.le_refl _⟩ (fun H locs hR hS => ?_)
    refine lv_if_ne (tgt := 30) hx hb dX12_chance_23 rfl (fun hc => ?_) (fun hc => ?_)
    · try simp only [if_neg hc] at kM2
      refine lv_iconst (v := 0) hx hb dX12_chance_30 rfl ?_
      exact kM2 ls _ _ (lv_sub hl [0, 1, 2] rfl) hR hS
    · try simp only [if_pos hc] at kM2
      refine lv_iconst (v := 1) hx hb dX12_chance_26 rfl ?_
      refine lv_goto (tgt := 31) hx hb dX12_chance_27 rfl ?_
      exact kM2 ls _ _ (lv_sub hl [0, 1, 2] rfl) hR hS
def f_X12_week_53 (x : Nat) (h : XH) : Option (Int32 × XH) := some (0, h)
def f_X12_week (x : Nat) (h : XH) (v1 : Int32) : Option (Int32 × XH) := x_let (x_i h (x + 64) 0 0) (fun h1 => Option.bind (f_X12_throwsIf x h1 (if (f_X12_in h1 v1 0 9999) = 0 then 1 else 0) 1) (fun q3 => if q3.1 = 0 then if x_b 5 6927 = true then Option.bind (f_X12_throwsIf x q3.2 (if (q3.2.1 (x + 65) (5 : Int32).toNatClampNeg) = 20 then 1 else 0) 2) (fun q6 => if q6.1 = 0 then if x_b 5 6927 = true then if x_b (944 + (q6.2.1 (x + 65) (5 : Int32).toNatClampNeg)) 6927 = true then x_let (x_i q6.2 (x + 65) (944 + (q6.2.1 (x + 65) (5 : Int32).toNatClampNeg)).toNatClampNeg v1) (fun h9 => if x_b 5 6927 = true then if x_b 5 6927 = true then x_let (x_i h9 (x + 65) (5 : Int32).toNatClampNeg ((h9.1 (x + 65) (5 : Int32).toNatClampNeg) + 1)) (fun h12 => if x_b 5 6927 = true then some ((h12.1 (x + 65) (5 : Int32).toNatClampNeg), h12) else none) else none else none) else none else none else f_X12_week_53 x q6.2) else none else f_X12_week_53 x q3.2))
set_option maxRecDepth 20000 in
theorem B_X12_week_53 {p : Program} {l : Launch} {e : Env} {s : State} {m : MethodId} {args : Array Value} {below : List Frame} {meth : Method} {c : Code} {O : XO} {K : XK} {r : Int32} {h' : XH}   (C : x_C p s m args meth c O cX12_week 2 RX12 (some .int))   (ls : Array Slot) (H : Heap) (locs : List Loc) (h : XH) (hl : lv_has ls 2 []) (hR : x_R O K h H) (hS : va_S (oA O) s.heap H locs) (hf : f_X12_week_53 (oX O) h = some (r, h')) : W p l e (x_rm 1 22) s m args below meth c H locs 0 0 (MQ below (x_Qc O K h' (some (.int r))) args s 0 0 (oA O)) (F0 m 53 ls []) := by
  have hx := C.1
  have hb := C.2.1
  rw [f_X12_week_53] at hf
  refine lv_iconst (v := 0) hx hb dX12_week_53 rfl ?_
  cases hf
  exact x_iret C hR hS dX12_week_54
set_option maxRecDepth 20000 in
theorem S_X12_week {l : Launch} {O : XO} {K : XK} {h : XH} {v1 : Int32}  {r : Int32} {h' : XH}  (hf : f_X12_week (oX O) h v1 = some (r, h')) : x_M l O K yX12_week cX12_week 2 (some .int) 1 22 h [.ref (oX O + 64), .int v1] (some (.int r)) h' := by
  refine x_enter (by decide) (Nat.le_of_ble_eq_true rfl) (fun p e s m args below meth c C hR ls hl => ?_)
  have hS : va_S (oA O) s.heap s.heap [] := va_S.rf
  have hx := C.1
  have hb := C.2.1
  have hl : lv_has ls 2 [(0, .ref (oX O + 64)), (1, .int v1)] := hl
  rw [f_X12_week] at hf
  refine lv_aload_n hx hb dX12_week_0 rfl (lv_at hl 0 rfl) ?_
  refine lv_iconst (v := 0) hx hb dX12_week_1 rfl ?_
  obtain ⟨h1, eh1, hf⟩ := x_lt hf
  refine pf_12_0 C hR hS (x_k hR 64 rfl) tw_1543 dX12_week_2 (fun H locs hR hS => ?_)
  rw [← eh1] at hR
  refine lv_aload_n hx hb dX12_week_5 rfl (lv_at hl 0 rfl) ?_
  refine lv_iload_n hx hb dX12_week_6 rfl (lv_at hl 1 rfl) ?_
  refine lv_iconst (v := 0) hx hb dX12_week_7 rfl ?_
  refine lv_sipush (v := 9999) hx hb dX12_week_8 rfl ?_
  refine x_cSi3 C hR hS (S_X12_in  rfl) mf_X12_in tw_1756 (Nat.le_of_ble_eq_true rfl) (Nat.le_of_ble_eq_true rfl) hl.1 (Nat.le_of_ble_eq_true rfl) dX12_week_11 ⟨Nat.le_refl _, Nat.le_refl _⟩ (fun H locs hR hS => ?_)
  have kM2 : ∀ (ls : Array Slot) (H : Heap) (locs : List Loc), lv_has ls 2 [(0, .ref (oX O + 64)), (1, .int v1)] → x_R O K h1 H → va_S (oA O) s.heap H locs → W p l e (x_rm 1 22) s m args below meth c H locs 0 0 (MQ below (x_Qc O K h' (some (.int r))) args s 0 0 (oA O)) (F0 m 22 ls [.int (if (f_X12_in h1 v1 0 9999) = 0 then 1 else 0), .ref (oX O + 64)]) := by
    intro ls H locs hl hR hS
    refine lv_iconst (v := 1) hx hb dX12_week_22 rfl ?_
    obtain ⟨q3, eq3, hf⟩ := x_bd hf
    refine x_cVi2 C hR hS (S_X12_throwsIf  eq3) (x_k hR 64 rfl) (by decide) rfl mf_X12_throwsIf tw_1741 (Nat.le_of_ble_eq_true rfl) (Nat.le_of_ble_eq_true rfl) hl.1 (Nat.le_of_ble_eq_true rfl) dX12_week_23 ⟨Nat.le_refl _, Nat.le_refl _⟩ (fun H locs hR hS => ?_)
    refine lv_if_ne (tgt := 53) hx hb dX12_week_26 rfl (fun hc => ?_) (fun hc => ?_)
    · have hf := x_in hc hf
      exact B_X12_week_53  C   ls _ _ q3.2  (lv_sub hl [] rfl) hR hS hf
    · have hf := x_ip hc hf
      refine lv_aload_n hx hb dX12_week_29 rfl (lv_at hl 0 rfl) ?_
      refine lv_aload_n hx hb dX12_week_30 rfl (lv_at hl 0 rfl) ?_
      refine gf_12_1 C hR (x_k hR 64 rfl) tw_1544 dX12_week_31 ?_
      refine lv_iconst (v := 5) hx hb dX12_week_34 rfl ?_
      obtain ⟨g4, hf⟩ := x_gd hf
      refine x_iald C hR (x_k1 (x_k hR 65 rfl)) (x_k2 (x_k hR 65 rfl) g4) dX12_week_35 ?_
      refine lv_bipush (v := 20) hx hb dX12_week_36 rfl ?_
      have kM5 : ∀ (ls : Array Slot) (H : Heap) (locs : List Loc), lv_has ls 2 [(0, .ref (oX O + 64)), (1, .int v1)] → x_R O K q3.2 H → va_S (oA O) s.heap H locs → W p l e (x_rm 1 22) s m args below meth c H locs 0 0 (MQ below (x_Qc O K h' (some (.int r))) args s 0 0 (oA O)) (F0 m 46 ls [.int (if (q3.2.1 (oX O + 65) (5 : Int32).toNatClampNeg) = 20 then 1 else 0), .ref (oX O + 64)]) := by
        intro ls H locs hl hR hS
        refine lv_iconst (v := 2) hx hb dX12_week_46 rfl ?_
        obtain ⟨q6, eq6, hf⟩ := x_bd hf
        refine x_cVi2 C hR hS (S_X12_throwsIf  eq6) (x_k hR 64 rfl) (by decide) rfl mf_X12_throwsIf tw_1741 (Nat.le_of_ble_eq_true rfl) (Nat.le_of_ble_eq_true rfl) hl.1 (Nat.le_of_ble_eq_true rfl) dX12_week_47 ⟨Nat.le_refl _, Nat.le_refl _⟩ (fun H locs hR hS => ?_)
        refine lv_if_eq (tgt := 55) hx hb dX12_week_50 rfl (fun hc => ?_) (fun hc => ?_)
        · have hf := x_ip hc hf
          refine lv_aload_n hx hb dX12_week_55 rfl (lv_at hl 0 rfl) ?_
          refine gf_12_1 C hR (x_k hR 64 rfl) tw_1544 dX12_week_56 ?_
          refine lv_sipush (v := 944) hx hb dX12_week_59 rfl ?_
          refine lv_aload_n hx hb dX12_week_62 rfl (lv_at hl 0 rfl) ?_
          refine gf_12_1 C hR (x_k hR 64 rfl) tw_1544 dX12_week_63 ?_
          refine lv_iconst (v := 5) hx hb dX12_week_66 rfl ?_
          obtain ⟨g7, hf⟩ := x_gd hf
          refine x_iald C hR (x_k1 (x_k hR 65 rfl)) (x_k2 (x_k hR 65 rfl) g7) dX12_week_67 ?_
          refine lv_iadd hx hb dX12_week_68 ?_
          refine lv_iload_n hx hb dX12_week_69 rfl (lv_at hl 1 rfl) ?_
          obtain ⟨g8, hf⟩ := x_gd hf
          obtain ⟨h9, eh9, hf⟩ := x_lt hf
          refine x_iast C hR hS (x_k1 (x_k hR 65 rfl)) (x_k2 (x_k hR 65 rfl) g8) dX12_week_70 (fun H locs hR hS => ?_)
          rw [← eh9] at hR
          refine lv_aload_n hx hb dX12_week_71 rfl (lv_at hl 0 rfl) ?_
          refine gf_12_1 C hR (x_k hR 64 rfl) tw_1544 dX12_week_72 ?_
          refine lv_iconst (v := 5) hx hb dX12_week_75 rfl ?_
          refine lv_dup2_11 hx hb dX12_week_76 rfl rfl ?_
          obtain ⟨g10, hf⟩ := x_gd hf
          refine x_iald C hR (x_k1 (x_k hR 65 rfl)) (x_k2 (x_k hR 65 rfl) g10) dX12_week_77 ?_
          refine lv_iconst (v := 1) hx hb dX12_week_78 rfl ?_
          refine lv_iadd hx hb dX12_week_79 ?_
          obtain ⟨g11, hf⟩ := x_gd hf
          obtain ⟨h12, eh12, hf⟩ := x_lt hf
          refine x_iast C hR hS (x_k1 (x_k hR 65 rfl)) (x_k2 (x_k hR 65 rfl) g11) dX12_week_80 (fun H locs hR hS => ?_)
          rw [← eh12] at hR
          refine lv_aload_n hx hb dX12_week_81 rfl (lv_at hl 0 rfl) ?_
          refine gf_12_1 C hR (x_k hR 64 rfl) tw_1544 dX12_week_82 ?_
          refine lv_iconst (v := 5) hx hb dX12_week_85 rfl ?_
          obtain ⟨g13, hf⟩ := x_gd hf
          refine x_iald C hR (x_k1 (x_k hR 65 rfl)) (x_k2 (x_k hR 65 rfl) g13) dX12_week_86 ?_
          cases hf
          exact x_iret C hR hS dX12_week_87
        · have hf := x_in hc hf
          exact B_X12_week_53  C   ls _ _ q6.2  (lv_sub hl [] rfl) hR hS hf
      refine lv_icmp_ne (tgt := 45) hx hb dX12_week_38 rfl (fun hc => ?_) (fun hc => ?_)
      · try simp only [if_neg hc] at kM5
        refine lv_iconst (v := 0) hx hb dX12_week_45 rfl ?_
        exact kM5 ls _ _ (lv_sub hl [0, 1] rfl) hR hS
      · try simp only [if_pos hc] at kM5
        refine lv_iconst (v := 1) hx hb dX12_week_41 rfl ?_
        refine lv_goto (tgt := 46) hx hb dX12_week_42 rfl ?_
        exact kM5 ls _ _ (lv_sub hl [0, 1] rfl) hR hS
  refine lv_if_ne (tgt := 21) hx hb dX12_week_14 rfl (fun hc => ?_) (fun hc => ?_)
  · try simp only [if_neg hc] at kM2
    refine lv_iconst (v := 0) hx hb dX12_week_21 rfl ?_
    exact kM2 ls _ _ (lv_sub hl [0, 1] rfl) hR hS
  · try simp only [if_pos hc] at kM2
    refine lv_iconst (v := 1) hx hb dX12_week_17 rfl ?_
    refine lv_goto (tgt := 22) hx hb dX12_week_18 rfl ?_
    exact kM2 ls _ _ (lv_sub hl [0, 1] rfl) hR hS
def f_X12_dullest_111 (k14 : XH → Int32 → Int32 → Int32 → Int32 → Option (Int32 × XH)) (k30 : XH → Int32 → Int32 → Int32 → Int32 → Int32 → Int32 → Int32 → Option (Int32 × XH)) (x : Nat) (h : XH) (v1 : Int32) (v2 : Int32) (v3 : Int32) (v4 : Int32) (v5 : Int32) (v6 : Int32) (v7 : Int32) : Option (Int32 × XH) := k30 h v1 v2 v3 v4 v5 v6 (v7 + 1)
def f_X12_dullest_105 (k14 : XH → Int32 → Int32 → Int32 → Int32 → Option (Int32 × XH)) (k30 : XH → Int32 → Int32 → Int32 → Int32 → Int32 → Int32 → Int32 → Option (Int32 × XH)) (k44 : XH → Int32 → Int32 → Int32 → Int32 → Int32 → Int32 → Int32 → Int32 → Option (Int32 × XH)) (x : Nat) (h : XH) (v1 : Int32) (v2 : Int32) (v3 : Int32) (v4 : Int32) (v5 : Int32) (v6 : Int32) (v7 : Int32) (v8 : Int32) : Option (Int32 × XH) := k44 h v1 v2 v3 v4 v5 v6 v7 (v8 + 1)
def f_X12_dullest_44 (k14 : XH → Int32 → Int32 → Int32 → Int32 → Option (Int32 × XH)) (k30 : XH → Int32 → Int32 → Int32 → Int32 → Int32 → Int32 → Int32 → Option (Int32 × XH)) (x : Nat) : Nat → XH → Int32 → Int32 → Int32 → Int32 → Int32 → Int32 → Int32 → Int32 → Option (Int32 × XH)
  | 0, _, _, _, _, _, _, _, _, _ => none
  | n + 1, h, v1, v2, v3, v4, v5, v6, v7, v8 => Option.bind (f_X12_of x h v7 2) (fun v_4 => if v_4 ≤ v8 then f_X12_dullest_111 k14 k30 x h v1 v2 v3 v4 v5 v6 v7 else Option.bind (f_X12_isPut x h v7) (fun v_5 => if v_5 = 0 then f_X12_dullest_111 k14 k30 x h v1 v2 v3 v4 v5 v6 v7 else Option.bind (f_X12_cardOf x h v7 v8) (fun v_6 => if v_6 = v4 then Option.bind (f_X12_kindOf x h v7 v8) (fun v_7 => x_let ((v6 + (if v_7 = 0 then 0 else 1)) : Int32) (fun t9 => f_X12_dullest_105 k14 k30 (f_X12_dullest_44 k14 k30 x n) x h v1 v2 v3 v4 (v5 + 1) t9 v7 v8)) else f_X12_dullest_105 k14 k30 (f_X12_dullest_44 k14 k30 x n) x h v1 v2 v3 v4 v5 v6 v7 v8)))
def f_X12_dullest_30 (k14 : XH → Int32 → Int32 → Int32 → Int32 → Option (Int32 × XH)) (x : Nat) : Nat → XH → Int32 → Int32 → Int32 → Int32 → Int32 → Int32 → Int32 → Option (Int32 × XH)
  | 0, _, _, _, _, _, _, _, _ => none
  | n + 1, h, v1, v2, v3, v4, v5, v6, v7 => if x_b 1 6927 = true then if (h.1 (x + 65) (1 : Int32).toNatClampNeg) ≤ v7 then k14 h (if (v2 * v5) < (v6 * v3) then v4 else v1) (if (v2 * v5) < (v6 * v3) then v6 else v2) (if (v2 * v5) < (v6 * v3) then v5 else v3) (v4 + 1) else f_X12_dullest_44 k14 (f_X12_dullest_30 k14 x n) x x_FU h v1 v2 v3 v4 v5 v6 v7 0 else none
def f_X12_dullest_14 (x : Nat) : Nat → XH → Int32 → Int32 → Int32 → Int32 → Option (Int32 × XH)
  | 0, _, _, _, _, _ => none
  | n + 1, h, v1, v2, v3, v4 => if 52 ≤ v4 then some (v1, h) else f_X12_dullest_30 (f_X12_dullest_14 x n) x x_FU h v1 v2 v3 v4 0 0 0
def f_X12_dullest (x : Nat) (h : XH) : Option (Int32 × XH) := x_let (x_i h (x + 64) 0 0) (fun h1 => f_X12_dullest_14 x x_FU h1 (-1) 0 1 0)
set_option maxRecDepth 20000 in
theorem B_X12_dullest_111 {p : Program} {l : Launch} {e : Env} {s : State} {m : MethodId} {args : Array Value} {below : List Frame} {meth : Method} {c : Code} {O : XO} {K : XK} {r : Int32} {h' : XH}  {k14 : XH → Int32 → Int32 → Int32 → Int32 → Option (Int32 × XH)} {k30 : XH → Int32 → Int32 → Int32 → Int32 → Int32 → Int32 → Int32 → Option (Int32 × XH)} (C : x_C p s m args meth c O cX12_dullest 9 RX12 (some .int)) (hk14 : ∀ (ls : Array Slot) (H : Heap) (locs : List Loc) (h : XH) (v1 : Int32) (v2 : Int32) (v3 : Int32) (v4 : Int32), lv_has ls 9 [(0, .ref (oX O + 64)), (1, .int v1), (2, .int v2), (3, .int v3), (4, .int v4)] → x_R O K h H → va_S (oA O) s.heap H locs → k14 h v1 v2 v3 v4 = some (r, h') → W p l e (x_rm 6 147) s m args below meth c H locs 0 0 (MQ below (x_Qc O K h' (some (.int r))) args s 0 0 (oA O)) (F0 m 14 ls [])) (hk30 : ∀ (ls : Array Slot) (H : Heap) (locs : List Loc) (h : XH) (v1 : Int32) (v2 : Int32) (v3 : Int32) (v4 : Int32) (v5 : Int32) (v6 : Int32) (v7 : Int32), lv_has ls 9 [(0, .ref (oX O + 64)), (1, .int v1), (2, .int v2), (3, .int v3), (4, .int v4), (5, .int v5), (6, .int v6), (7, .int v7)] → x_R O K h H → va_S (oA O) s.heap H locs → k30 h v1 v2 v3 v4 v5 v6 v7 = some (r, h') → W p l e (x_rm 6 147) s m args below meth c H locs 0 0 (MQ below (x_Qc O K h' (some (.int r))) args s 0 0 (oA O)) (F0 m 30 ls []))  (ls : Array Slot) (H : Heap) (locs : List Loc) (h : XH) (v1 : Int32) (v2 : Int32) (v3 : Int32) (v4 : Int32) (v5 : Int32) (v6 : Int32) (v7 : Int32) (hl : lv_has ls 9 [(0, .ref (oX O + 64)), (1, .int v1), (2, .int v2), (3, .int v3), (4, .int v4), (5, .int v5), (6, .int v6), (7, .int v7)]) (hR : x_R O K h H) (hS : va_S (oA O) s.heap H locs) (hf : f_X12_dullest_111 k14 k30 (oX O) h v1 v2 v3 v4 v5 v6 v7 = some (r, h')) : W p l e (x_rm 6 147) s m args below meth c H locs 0 0 (MQ below (x_Qc O K h' (some (.int r))) args s 0 0 (oA O)) (F0 m 111 ls []) := by
  have hx := C.1
  have hb := C.2.1
  rw [f_X12_dullest_111] at hf
  refine lv_iinc (k := 7) (v := _ + 1) (lv' := [(7, _), (0, _), (1, _), (2, _), (3, _), (4, _), (5, _), (6, _)]) hx hb dX12_dullest_111 hl rfl (x_inc 1 1 rfl _) (Nat.le_of_ble_eq_true rfl) rfl (fun ls hl => ?_)
  refine lv_goto (tgt := 30) hx hb dX12_dullest_114 rfl ?_
  exact hk30 ls _ _ h _ _ _ _ _ _ _  (lv_sub hl [1, 2, 3, 4, 5, 6, 7, 0] rfl) hR hS hf
set_option maxRecDepth 20000 in
theorem B_X12_dullest_105 {p : Program} {l : Launch} {e : Env} {s : State} {m : MethodId} {args : Array Value} {below : List Frame} {meth : Method} {c : Code} {O : XO} {K : XK} {r : Int32} {h' : XH}  {k14 : XH → Int32 → Int32 → Int32 → Int32 → Option (Int32 × XH)} {k30 : XH → Int32 → Int32 → Int32 → Int32 → Int32 → Int32 → Int32 → Option (Int32 × XH)} {k44 : XH → Int32 → Int32 → Int32 → Int32 → Int32 → Int32 → Int32 → Int32 → Option (Int32 × XH)} (C : x_C p s m args meth c O cX12_dullest 9 RX12 (some .int)) (hk14 : ∀ (ls : Array Slot) (H : Heap) (locs : List Loc) (h : XH) (v1 : Int32) (v2 : Int32) (v3 : Int32) (v4 : Int32), lv_has ls 9 [(0, .ref (oX O + 64)), (1, .int v1), (2, .int v2), (3, .int v3), (4, .int v4)] → x_R O K h H → va_S (oA O) s.heap H locs → k14 h v1 v2 v3 v4 = some (r, h') → W p l e (x_rm 6 147) s m args below meth c H locs 0 0 (MQ below (x_Qc O K h' (some (.int r))) args s 0 0 (oA O)) (F0 m 14 ls [])) (hk30 : ∀ (ls : Array Slot) (H : Heap) (locs : List Loc) (h : XH) (v1 : Int32) (v2 : Int32) (v3 : Int32) (v4 : Int32) (v5 : Int32) (v6 : Int32) (v7 : Int32), lv_has ls 9 [(0, .ref (oX O + 64)), (1, .int v1), (2, .int v2), (3, .int v3), (4, .int v4), (5, .int v5), (6, .int v6), (7, .int v7)] → x_R O K h H → va_S (oA O) s.heap H locs → k30 h v1 v2 v3 v4 v5 v6 v7 = some (r, h') → W p l e (x_rm 6 147) s m args below meth c H locs 0 0 (MQ below (x_Qc O K h' (some (.int r))) args s 0 0 (oA O)) (F0 m 30 ls [])) (hk44 : ∀ (ls : Array Slot) (H : Heap) (locs : List Loc) (h : XH) (v1 : Int32) (v2 : Int32) (v3 : Int32) (v4 : Int32) (v5 : Int32) (v6 : Int32) (v7 : Int32) (v8 : Int32), lv_has ls 9 [(0, .ref (oX O + 64)), (1, .int v1), (2, .int v2), (3, .int v3), (4, .int v4), (5, .int v5), (6, .int v6), (7, .int v7), (8, .int v8)] → x_R O K h H → va_S (oA O) s.heap H locs → k44 h v1 v2 v3 v4 v5 v6 v7 v8 = some (r, h') → W p l e (x_rm 6 147) s m args below meth c H locs 0 0 (MQ below (x_Qc O K h' (some (.int r))) args s 0 0 (oA O)) (F0 m 44 ls []))  (ls : Array Slot) (H : Heap) (locs : List Loc) (h : XH) (v1 : Int32) (v2 : Int32) (v3 : Int32) (v4 : Int32) (v5 : Int32) (v6 : Int32) (v7 : Int32) (v8 : Int32) (hl : lv_has ls 9 [(0, .ref (oX O + 64)), (1, .int v1), (2, .int v2), (3, .int v3), (4, .int v4), (5, .int v5), (6, .int v6), (7, .int v7), (8, .int v8)]) (hR : x_R O K h H) (hS : va_S (oA O) s.heap H locs) (hf : f_X12_dullest_105 k14 k30 k44 (oX O) h v1 v2 v3 v4 v5 v6 v7 v8 = some (r, h')) : W p l e (x_rm 6 147) s m args below meth c H locs 0 0 (MQ below (x_Qc O K h' (some (.int r))) args s 0 0 (oA O)) (F0 m 105 ls []) := by
  have hx := C.1
  have hb := C.2.1
  rw [f_X12_dullest_105] at hf
  refine lv_iinc (k := 8) (v := _ + 1) (lv' := [(8, _), (0, _), (1, _), (2, _), (3, _), (4, _), (5, _), (6, _), (7, _)]) hx hb dX12_dullest_105 hl rfl (x_inc 1 1 rfl _) (Nat.le_of_ble_eq_true rfl) rfl (fun ls hl => ?_)
  refine lv_goto (tgt := 44) hx hb dX12_dullest_108 rfl ?_
  exact hk44 ls _ _ h _ _ _ _ _ _ _ _  (lv_sub hl [1, 2, 3, 4, 5, 6, 7, 8, 0] rfl) hR hS hf
set_option maxRecDepth 20000 in
theorem B_X12_dullest_44 {p : Program} {l : Launch} {e : Env} {s : State} {m : MethodId} {args : Array Value} {below : List Frame} {meth : Method} {c : Code} {O : XO} {K : XK} {r : Int32} {h' : XH}  {k14 : XH → Int32 → Int32 → Int32 → Int32 → Option (Int32 × XH)} {k30 : XH → Int32 → Int32 → Int32 → Int32 → Int32 → Int32 → Int32 → Option (Int32 × XH)} (C : x_C p s m args meth c O cX12_dullest 9 RX12 (some .int)) (hk14 : ∀ (ls : Array Slot) (H : Heap) (locs : List Loc) (h : XH) (v1 : Int32) (v2 : Int32) (v3 : Int32) (v4 : Int32), lv_has ls 9 [(0, .ref (oX O + 64)), (1, .int v1), (2, .int v2), (3, .int v3), (4, .int v4)] → x_R O K h H → va_S (oA O) s.heap H locs → k14 h v1 v2 v3 v4 = some (r, h') → W p l e (x_rm 6 147) s m args below meth c H locs 0 0 (MQ below (x_Qc O K h' (some (.int r))) args s 0 0 (oA O)) (F0 m 14 ls [])) (hk30 : ∀ (ls : Array Slot) (H : Heap) (locs : List Loc) (h : XH) (v1 : Int32) (v2 : Int32) (v3 : Int32) (v4 : Int32) (v5 : Int32) (v6 : Int32) (v7 : Int32), lv_has ls 9 [(0, .ref (oX O + 64)), (1, .int v1), (2, .int v2), (3, .int v3), (4, .int v4), (5, .int v5), (6, .int v6), (7, .int v7)] → x_R O K h H → va_S (oA O) s.heap H locs → k30 h v1 v2 v3 v4 v5 v6 v7 = some (r, h') → W p l e (x_rm 6 147) s m args below meth c H locs 0 0 (MQ below (x_Qc O K h' (some (.int r))) args s 0 0 (oA O)) (F0 m 30 ls []))  : ∀ (n : Nat) (ls : Array Slot) (H : Heap) (locs : List Loc) (h : XH) (v1 : Int32) (v2 : Int32) (v3 : Int32) (v4 : Int32) (v5 : Int32) (v6 : Int32) (v7 : Int32) (v8 : Int32) (hl : lv_has ls 9 [(0, .ref (oX O + 64)), (1, .int v1), (2, .int v2), (3, .int v3), (4, .int v4), (5, .int v5), (6, .int v6), (7, .int v7), (8, .int v8)]) (hR : x_R O K h H) (hS : va_S (oA O) s.heap H locs) (hf : f_X12_dullest_44 k14 k30 (oX O) n h v1 v2 v3 v4 v5 v6 v7 v8 = some (r, h')), W p l e (x_rm 6 147) s m args below meth c H locs 0 0 (MQ below (x_Qc O K h' (some (.int r))) args s 0 0 (oA O)) (F0 m 44 ls []) := by
  have hx := C.1
  have hb := C.2.1
  intro n
  induction n with
  | zero =>
    intro ls H locs h v1 v2 v3 v4 v5 v6 v7 v8 hl hR hS hf
    rw [f_X12_dullest_44] at hf
    cases hf
  | succ n ih =>
    intro ls H locs h v1 v2 v3 v4 v5 v6 v7 v8 hl hR hS hf
    rw [f_X12_dullest_44] at hf
    refine lv_iload hx hb dX12_dullest_44 (lv_at hl 8 rfl) ?_
    refine lv_aload_n hx hb dX12_dullest_46 rfl (lv_at hl 0 rfl) ?_
    refine lv_iload hx hb dX12_dullest_47 (lv_at hl 7 rfl) ?_
    refine lv_iconst (v := 2) hx hb dX12_dullest_49 rfl ?_
    obtain ⟨v_4, ev_4, hf⟩ := x_bd hf
    refine x_cVi2 C hR hS (S_X12_of  ev_4) (x_k hR 64 rfl) (by decide) rfl mf_X12_of tw_1806 (Nat.le_of_ble_eq_true rfl) (Nat.le_of_ble_eq_true rfl) hl.1 (Nat.le_of_ble_eq_true rfl) dX12_dullest_50 ⟨Nat.le_refl _, Nat.le_refl _⟩ (fun H locs hR hS => ?_)
    refine lv_icmp_ge (tgt := 111) hx hb dX12_dullest_53 rfl (fun hc => ?_) (fun hc => ?_)
    · have hf := x_ip hc hf
      exact B_X12_dullest_111  C hk14 hk30  ls _ _ h _ _ _ _ _ _ _  (lv_sub hl [0, 1, 2, 3, 4, 5, 6, 7] rfl) hR hS hf
    · have hf := x_in hc hf
      refine lv_aload_n hx hb dX12_dullest_56 rfl (lv_at hl 0 rfl) ?_
      refine lv_iload hx hb dX12_dullest_57 (lv_at hl 7 rfl) ?_
      obtain ⟨v_5, ev_5, hf⟩ := x_bd hf
      refine x_cVi1 C hR hS (S_X12_isPut  ev_5) (x_k hR 64 rfl) (by decide) rfl mf_X12_isPut tw_1818 (Nat.le_of_ble_eq_true rfl) (Nat.le_of_ble_eq_true rfl) hl.1 (Nat.le_of_ble_eq_true rfl) dX12_dullest_59 ⟨Nat.le_refl _, Nat.le_refl _⟩ (fun H locs hR hS => ?_)
      refine lv_if_eq (tgt := 111) hx hb dX12_dullest_62 rfl (fun hc => ?_) (fun hc => ?_)
      · have hf := x_ip hc hf
        exact B_X12_dullest_111  C hk14 hk30  ls _ _ h _ _ _ _ _ _ _  (lv_sub hl [0, 1, 2, 3, 4, 5, 6, 7] rfl) hR hS hf
      · have hf := x_in hc hf
        refine lv_aload_n hx hb dX12_dullest_65 rfl (lv_at hl 0 rfl) ?_
        refine lv_iload hx hb dX12_dullest_66 (lv_at hl 7 rfl) ?_
        refine lv_iload hx hb dX12_dullest_68 (lv_at hl 8 rfl) ?_
        obtain ⟨v_6, ev_6, hf⟩ := x_bd hf
        refine x_cVi2 C hR hS (S_X12_cardOf  ev_6) (x_k hR 64 rfl) (by decide) rfl mf_X12_cardOf tw_1810 (Nat.le_of_ble_eq_true rfl) (Nat.le_of_ble_eq_true rfl) hl.1 (Nat.le_of_ble_eq_true rfl) dX12_dullest_70 ⟨Nat.le_refl _, Nat.le_refl _⟩ (fun H locs hR hS => ?_)
        refine lv_iload hx hb dX12_dullest_73 (lv_at hl 4 rfl) ?_
        refine lv_icmp_eq (tgt := 81) hx hb dX12_dullest_75 rfl (fun hc => ?_) (fun hc => ?_)
        · have hf := x_ip hc hf
          refine lv_iinc (k := 5) (v := _ + 1) (lv' := [(5, _), (0, _), (1, _), (2, _), (3, _), (4, _), (6, _), (7, _), (8, _)]) hx hb dX12_dullest_81 hl rfl (x_inc 1 1 rfl _) (Nat.le_of_ble_eq_true rfl) rfl (fun ls hl => ?_)
          refine lv_iload hx hb dX12_dullest_84 (lv_at hl 6 rfl) ?_
          refine lv_aload_n hx hb dX12_dullest_86 rfl (lv_at hl 1 rfl) ?_
          refine lv_iload hx hb dX12_dullest_87 (lv_at hl 7 rfl) ?_
          refine lv_iload hx hb dX12_dullest_89 (lv_at hl 8 rfl) ?_
          obtain ⟨v_7, ev_7, hf⟩ := x_bd hf
          refine x_cVi2 C hR hS (S_X12_kindOf  ev_7) (x_k hR 64 rfl) (by decide) rfl mf_X12_kindOf tw_1915 (Nat.le_of_ble_eq_true rfl) (Nat.le_of_ble_eq_true rfl) hl.1 (Nat.le_of_ble_eq_true rfl) dX12_dullest_91 ⟨Nat.le_refl _, Nat.le_refl _⟩ (fun H locs hR hS => ?_)
          have kM8 : ∀ (ls : Array Slot) (H : Heap) (locs : List Loc), lv_has ls 9 [(0, .ref (oX O + 64)), (1, .int v1), (2, .int v2), (3, .int v3), (4, .int v4), (5, .int (v5 + 1)), (7, .int v7), (8, .int v8)] → x_R O K h H → va_S (oA O) s.heap H locs → W p l e (x_rm 6 147) s m args below meth c H locs 0 0 (MQ below (x_Qc O K h' (some (.int r))) args s 0 0 (oA O)) (F0 m 102 ls [.int (if v_7 = 0 then 0 else 1), .int v6]) := by
            intro ls H locs hl hR hS
            refine lv_iadd hx hb dX12_dullest_102 ?_
            obtain ⟨t9, et9, hf⟩ := x_lt hf
            refine x_nmi et9 ?_
            refine lv_istore (lv' := [(6, _), (0, _), (1, _), (2, _), (3, _), (4, _), (5, _), (7, _), (8, _)]) hx hb dX12_dullest_103 hl (Nat.le_of_ble_eq_true rfl) rfl (fun ls hl => ?_)
            exact B_X12_dullest_105  C hk14 hk30 ih  ls _ _ h _ _ _ _ _ _ _ _  (lv_sub hl [1, 2, 3, 4, 5, 6, 0, 7, 8] rfl) hR hS hf
          refine lv_if_ne (tgt := 101) hx hb dX12_dullest_94 rfl (fun hc => ?_) (fun hc => ?_)
          · try simp only [if_neg hc] at kM8
            refine lv_iconst (v := 1) hx hb dX12_dullest_101 rfl ?_
            exact kM8 ls _ _ (lv_sub hl [1, 2, 3, 4, 5, 0, 7, 8] rfl) hR hS
          · try simp only [if_pos hc] at kM8
            refine lv_iconst (v := 0) hx hb dX12_dullest_97 rfl ?_
            refine lv_goto (tgt := 102) hx hb dX12_dullest_98 rfl ?_
            exact kM8 ls _ _ (lv_sub hl [1, 2, 3, 4, 5, 0, 7, 8] rfl) hR hS
        · have hf := x_in hc hf
          refine lv_goto (tgt := 105) hx hb dX12_dullest_78 rfl ?_
          exact B_X12_dullest_105  C hk14 hk30 ih  ls _ _ h _ _ _ _ _ _ _ _  (lv_sub hl [0, 1, 2, 3, 4, 5, 6, 7, 8] rfl) hR hS hf
set_option maxRecDepth 20000 in
theorem B_X12_dullest_30 {p : Program} {l : Launch} {e : Env} {s : State} {m : MethodId} {args : Array Value} {below : List Frame} {meth : Method} {c : Code} {O : XO} {K : XK} {r : Int32} {h' : XH}  {k14 : XH → Int32 → Int32 → Int32 → Int32 → Option (Int32 × XH)} (C : x_C p s m args meth c O cX12_dullest 9 RX12 (some .int)) (hk14 : ∀ (ls : Array Slot) (H : Heap) (locs : List Loc) (h : XH) (v1 : Int32) (v2 : Int32) (v3 : Int32) (v4 : Int32), lv_has ls 9 [(0, .ref (oX O + 64)), (1, .int v1), (2, .int v2), (3, .int v3), (4, .int v4)] → x_R O K h H → va_S (oA O) s.heap H locs → k14 h v1 v2 v3 v4 = some (r, h') → W p l e (x_rm 6 147) s m args below meth c H locs 0 0 (MQ below (x_Qc O K h' (some (.int r))) args s 0 0 (oA O)) (F0 m 14 ls []))  : ∀ (n : Nat) (ls : Array Slot) (H : Heap) (locs : List Loc) (h : XH) (v1 : Int32) (v2 : Int32) (v3 : Int32) (v4 : Int32) (v5 : Int32) (v6 : Int32) (v7 : Int32) (hl : lv_has ls 9 [(0, .ref (oX O + 64)), (1, .int v1), (2, .int v2), (3, .int v3), (4, .int v4), (5, .int v5), (6, .int v6), (7, .int v7)]) (hR : x_R O K h H) (hS : va_S (oA O) s.heap H locs) (hf : f_X12_dullest_30 k14 (oX O) n h v1 v2 v3 v4 v5 v6 v7 = some (r, h')), W p l e (x_rm 6 147) s m args below meth c H locs 0 0 (MQ below (x_Qc O K h' (some (.int r))) args s 0 0 (oA O)) (F0 m 30 ls []) := by
  have hx := C.1
  have hb := C.2.1
  intro n
  induction n with
  | zero =>
    intro ls H locs h v1 v2 v3 v4 v5 v6 v7 hl hR hS hf
    rw [f_X12_dullest_30] at hf
    cases hf
  | succ n ih =>
    intro ls H locs h v1 v2 v3 v4 v5 v6 v7 hl hR hS hf
    rw [f_X12_dullest_30] at hf
    refine lv_iload hx hb dX12_dullest_30 (lv_at hl 7 rfl) ?_
    refine lv_aload_n hx hb dX12_dullest_32 rfl (lv_at hl 0 rfl) ?_
    refine gf_12_1 C hR (x_k hR 64 rfl) tw_1544 dX12_dullest_33 ?_
    refine lv_iconst (v := 1) hx hb dX12_dullest_36 rfl ?_
    obtain ⟨g2, hf⟩ := x_gd hf
    refine x_iald C hR (x_k1 (x_k hR 65 rfl)) (x_k2 (x_k hR 65 rfl) g2) dX12_dullest_37 ?_
    refine lv_icmp_ge (tgt := 117) hx hb dX12_dullest_38 rfl (fun hc => ?_) (fun hc => ?_)
    · have hf := x_ip hc hf
      refine lv_iload hx hb dX12_dullest_117 (lv_at hl 6 rfl) ?_
      refine lv_iload_n hx hb dX12_dullest_119 rfl (lv_at hl 3 rfl) ?_
      refine lv_imul hx hb dX12_dullest_120 ?_
      refine lv_iload_n hx hb dX12_dullest_121 rfl (lv_at hl 2 rfl) ?_
      refine lv_iload hx hb dX12_dullest_122 (lv_at hl 5 rfl) ?_
      refine lv_imul hx hb dX12_dullest_124 ?_
      have kM3 : ∀ (ls : Array Slot) (H : Heap) (locs : List Loc), lv_has ls 9 [(0, .ref (oX O + 64)), (1, .int (if (v2 * v5) < (v6 * v3) then v4 else v1)), (2, .int (if (v2 * v5) < (v6 * v3) then v6 else v2)), (3, .int (if (v2 * v5) < (v6 * v3) then v5 else v3)), (4, .int v4)] → x_R O K h H → va_S (oA O) s.heap H locs → W p l e (x_rm 6 147) s m args below meth c H locs 0 0 (MQ below (x_Qc O K h' (some (.int r))) args s 0 0 (oA O)) (F0 m 140 ls []) := by
        intro ls H locs hl hR hS
        refine lv_iinc (k := 4) (v := _ + 1) (lv' := [(4, _), (0, _), (1, _), (2, _), (3, _)]) hx hb dX12_dullest_140 hl rfl (x_inc 1 1 rfl _) (Nat.le_of_ble_eq_true rfl) rfl (fun ls hl => ?_)
        refine lv_goto (tgt := 14) hx hb dX12_dullest_143 rfl ?_
        exact hk14 ls _ _ h _ _ _ _  (lv_sub hl [1, 2, 3, 4, 0] rfl) hR hS hf
      refine lv_icmp_gt (tgt := 131) hx hb dX12_dullest_125 rfl (fun hc => ?_) (fun hc => ?_)
      · try simp only [if_pos hc] at kM3
        refine lv_iload hx hb dX12_dullest_131 (lv_at hl 4 rfl) ?_
        refine lv_istore_n (lv' := [(1, _), (0, _), (2, _), (3, _), (4, _), (5, _), (6, _), (7, _)]) hx hb dX12_dullest_133 rfl hl (Nat.le_of_ble_eq_true rfl) rfl (fun ls hl => ?_)
        refine lv_iload hx hb dX12_dullest_134 (lv_at hl 6 rfl) ?_
        refine lv_istore_n (lv' := [(2, _), (1, _), (0, _), (3, _), (4, _), (5, _), (6, _), (7, _)]) hx hb dX12_dullest_136 rfl hl (Nat.le_of_ble_eq_true rfl) rfl (fun ls hl => ?_)
        refine lv_iload hx hb dX12_dullest_137 (lv_at hl 5 rfl) ?_
        refine lv_istore_n (lv' := [(3, _), (2, _), (1, _), (0, _), (4, _), (5, _), (6, _), (7, _)]) hx hb dX12_dullest_139 rfl hl (Nat.le_of_ble_eq_true rfl) rfl (fun ls hl => ?_)
        exact kM3 ls _ _ (lv_sub hl [3, 2, 1, 0, 4] rfl) hR hS
      · try simp only [if_neg hc] at kM3
        refine lv_goto (tgt := 140) hx hb dX12_dullest_128 rfl ?_
        exact kM3 ls _ _ (lv_sub hl [0, 1, 2, 3, 4] rfl) hR hS
    · have hf := x_in hc hf
      refine lv_iconst (v := 0) hx hb dX12_dullest_41 rfl ?_
      refine lv_istore (lv' := [(8, _), (0, _), (1, _), (2, _), (3, _), (4, _), (5, _), (6, _), (7, _)]) hx hb dX12_dullest_42 hl (Nat.le_of_ble_eq_true rfl) rfl (fun ls hl => ?_)
      exact B_X12_dullest_44  C hk14 ih x_FU ls _ _ h _ _ _ _ _ _ _ _  (lv_sub hl [1, 2, 3, 4, 5, 6, 7, 8, 0] rfl) hR hS hf
set_option maxRecDepth 20000 in
theorem B_X12_dullest_14 {p : Program} {l : Launch} {e : Env} {s : State} {m : MethodId} {args : Array Value} {below : List Frame} {meth : Method} {c : Code} {O : XO} {K : XK} {r : Int32} {h' : XH}   (C : x_C p s m args meth c O cX12_dullest 9 RX12 (some .int))   : ∀ (n : Nat) (ls : Array Slot) (H : Heap) (locs : List Loc) (h : XH) (v1 : Int32) (v2 : Int32) (v3 : Int32) (v4 : Int32) (hl : lv_has ls 9 [(0, .ref (oX O + 64)), (1, .int v1), (2, .int v2), (3, .int v3), (4, .int v4)]) (hR : x_R O K h H) (hS : va_S (oA O) s.heap H locs) (hf : f_X12_dullest_14 (oX O) n h v1 v2 v3 v4 = some (r, h')), W p l e (x_rm 6 147) s m args below meth c H locs 0 0 (MQ below (x_Qc O K h' (some (.int r))) args s 0 0 (oA O)) (F0 m 14 ls []) := by
  have hx := C.1
  have hb := C.2.1
  intro n
  induction n with
  | zero =>
    intro ls H locs h v1 v2 v3 v4 hl hR hS hf
    rw [f_X12_dullest_14] at hf
    cases hf
  | succ n ih =>
    intro ls H locs h v1 v2 v3 v4 hl hR hS hf
    rw [f_X12_dullest_14] at hf
    refine lv_iload hx hb dX12_dullest_14 (lv_at hl 4 rfl) ?_
    refine lv_bipush (v := 52) hx hb dX12_dullest_16 rfl ?_
    refine lv_icmp_ge (tgt := 146) hx hb dX12_dullest_18 rfl (fun hc => ?_) (fun hc => ?_)
    · have hf := x_ip hc hf
      refine lv_iload_n hx hb dX12_dullest_146 rfl (lv_at hl 1 rfl) ?_
      cases hf
      exact x_iret C hR hS dX12_dullest_147
    · have hf := x_in hc hf
      refine lv_iconst (v := 0) hx hb dX12_dullest_21 rfl ?_
      refine lv_istore (lv' := [(5, _), (0, _), (1, _), (2, _), (3, _), (4, _)]) hx hb dX12_dullest_22 hl (Nat.le_of_ble_eq_true rfl) rfl (fun ls hl => ?_)
      refine lv_iconst (v := 0) hx hb dX12_dullest_24 rfl ?_
      refine lv_istore (lv' := [(6, _), (5, _), (0, _), (1, _), (2, _), (3, _), (4, _)]) hx hb dX12_dullest_25 hl (Nat.le_of_ble_eq_true rfl) rfl (fun ls hl => ?_)
      refine lv_iconst (v := 0) hx hb dX12_dullest_27 rfl ?_
      refine lv_istore (lv' := [(7, _), (6, _), (5, _), (0, _), (1, _), (2, _), (3, _), (4, _)]) hx hb dX12_dullest_28 hl (Nat.le_of_ble_eq_true rfl) rfl (fun ls hl => ?_)
      exact B_X12_dullest_30  C ih x_FU ls _ _ h _ _ _ _ _ _ _  (lv_sub hl [3, 4, 5, 6, 7, 2, 1, 0] rfl) hR hS hf
set_option maxRecDepth 20000 in
theorem S_X12_dullest {l : Launch} {O : XO} {K : XK} {h : XH}  {r : Int32} {h' : XH}  (hf : f_X12_dullest (oX O) h = some (r, h')) : x_M l O K yX12_dullest cX12_dullest 9 (some .int) 6 147 h [.ref (oX O + 64)] (some (.int r)) h' := by
  refine x_enter (by decide) (Nat.le_of_ble_eq_true rfl) (fun p e s m args below meth c C hR ls hl => ?_)
  have hS : va_S (oA O) s.heap s.heap [] := va_S.rf
  have hx := C.1
  have hb := C.2.1
  have hl : lv_has ls 9 [(0, .ref (oX O + 64))] := hl
  rw [f_X12_dullest] at hf
  refine lv_aload_n hx hb dX12_dullest_0 rfl (lv_at hl 0 rfl) ?_
  refine lv_iconst (v := 0) hx hb dX12_dullest_1 rfl ?_
  obtain ⟨h1, eh1, hf⟩ := x_lt hf
  refine pf_12_0 C hR hS (x_k hR 64 rfl) tw_1543 dX12_dullest_2 (fun H locs hR hS => ?_)
  rw [← eh1] at hR
  refine lv_iconst (v := (-1)) hx hb dX12_dullest_5 rfl ?_
  refine lv_istore_n (lv' := [(1, _), (0, _)]) hx hb dX12_dullest_6 rfl hl (Nat.le_of_ble_eq_true rfl) rfl (fun ls hl => ?_)
  refine lv_iconst (v := 0) hx hb dX12_dullest_7 rfl ?_
  refine lv_istore_n (lv' := [(2, _), (1, _), (0, _)]) hx hb dX12_dullest_8 rfl hl (Nat.le_of_ble_eq_true rfl) rfl (fun ls hl => ?_)
  refine lv_iconst (v := 1) hx hb dX12_dullest_9 rfl ?_
  refine lv_istore_n (lv' := [(3, _), (2, _), (1, _), (0, _)]) hx hb dX12_dullest_10 rfl hl (Nat.le_of_ble_eq_true rfl) rfl (fun ls hl => ?_)
  refine lv_iconst (v := 0) hx hb dX12_dullest_11 rfl ?_
  refine lv_istore (lv' := [(4, _), (3, _), (2, _), (1, _), (0, _)]) hx hb dX12_dullest_12 hl (Nat.le_of_ble_eq_true rfl) rfl (fun ls hl => ?_)
  exact B_X12_dullest_14  C  x_FU ls _ _ h1 _ _ _ _  (lv_sub hl [4, 3, 2, 1, 0] rfl) hR hS hf
def f_X12_exchanges_2 (x : Nat) : Nat → XH → Int32 → Int32 → Int32 → Option (XH)
  | 0, _, _, _, _ => none
  | n + 1, h, v1, v2, v3 => if 3 ≤ v3 then some h else Option.bind (f_X12_dullOf x h v1 v3) (fun v_1 => Option.bind (f_X12_dullOf x h v2 v3) (fun v_2 => if x_b ((8 + (3 * v1)) + v3) 6927 = true then x_let (x_i h (x + 65) ((8 + (3 * v1)) + v3).toNatClampNeg v_2) (fun h4 => if x_b ((8 + (3 * v2)) + v3) 6927 = true then x_let (x_i h4 (x + 65) ((8 + (3 * v2)) + v3).toNatClampNeg v_1) (fun h6 => f_X12_exchanges_2 x n h6 v1 v2 (v3 + 1)) else none) else none))
def f_X12_exchanges (x : Nat) (h : XH) (v1 : Int32) (v2 : Int32) : Option (XH) := f_X12_exchanges_2 x x_FU h v1 v2 0
set_option maxRecDepth 20000 in
theorem B_X12_exchanges_2 {p : Program} {l : Launch} {e : Env} {s : State} {m : MethodId} {args : Array Value} {below : List Frame} {meth : Method} {c : Code} {O : XO} {K : XK} {h' : XH}   (C : x_C p s m args meth c O cX12_exchanges 5 RX12 none)   : ∀ (n : Nat) (ls : Array Slot) (H : Heap) (locs : List Loc) (h : XH) (v1 : Int32) (v2 : Int32) (v3 : Int32) (hl : lv_has ls 5 [(0, .ref (oX O + 64)), (1, .int v1), (2, .int v2), (3, .int v3)]) (hR : x_R O K h H) (hS : va_S (oA O) s.heap H locs) (hf : f_X12_exchanges_2 (oX O) n h v1 v2 v3 = some h'), W p l e (x_rm 1 22) s m args below meth c H locs 0 0 (MQ below (x_Qc O K h' none) args s 0 0 (oA O)) (F0 m 2 ls []) := by
  have hx := C.1
  have hb := C.2.1
  intro n
  induction n with
  | zero =>
    intro ls H locs h v1 v2 v3 hl hR hS hf
    rw [f_X12_exchanges_2] at hf
    cases hf
  | succ n ih =>
    intro ls H locs h v1 v2 v3 hl hR hS hf
    rw [f_X12_exchanges_2] at hf
    refine lv_iload_n hx hb dX12_exchanges_2 rfl (lv_at hl 3 rfl) ?_
    refine lv_iconst (v := 3) hx hb dX12_exchanges_3 rfl ?_
    refine lv_icmp_ge (tgt := 55) hx hb dX12_exchanges_4 rfl (fun hc => ?_) (fun hc => ?_)
    · have hf := x_ip hc hf
      cases hf
      exact x_vret C hR hS dX12_exchanges_55
    · have hf := x_in hc hf
      refine lv_aload_n hx hb dX12_exchanges_7 rfl (lv_at hl 0 rfl) ?_
      refine lv_iload_n hx hb dX12_exchanges_8 rfl (lv_at hl 1 rfl) ?_
      refine lv_iload_n hx hb dX12_exchanges_9 rfl (lv_at hl 3 rfl) ?_
      obtain ⟨v_1, ev_1, hf⟩ := x_bd hf
      refine x_cVi2 C hR hS (S_X12_dullOf  ev_1) (x_k hR 64 rfl) (by decide) rfl mf_X12_dullOf tw_1762 (Nat.le_of_ble_eq_true rfl) (Nat.le_of_ble_eq_true rfl) hl.1 (Nat.le_of_ble_eq_true rfl) dX12_exchanges_10 ⟨Nat.le_refl _, Nat.le_refl _⟩ (fun H locs hR hS => ?_)
      refine lv_istore (lv' := [(4, _), (0, _), (1, _), (2, _), (3, _)]) hx hb dX12_exchanges_13 hl (Nat.le_of_ble_eq_true rfl) rfl (fun ls hl => ?_)
      refine lv_aload_n hx hb dX12_exchanges_15 rfl (lv_at hl 1 rfl) ?_
      refine gf_12_1 C hR (x_k hR 64 rfl) tw_1544 dX12_exchanges_16 ?_
      refine lv_bipush (v := 8) hx hb dX12_exchanges_19 rfl ?_
      refine lv_iconst (v := 3) hx hb dX12_exchanges_21 rfl ?_
      refine lv_iload_n hx hb dX12_exchanges_22 rfl (lv_at hl 2 rfl) ?_
      refine lv_imul hx hb dX12_exchanges_23 ?_
      refine lv_iadd hx hb dX12_exchanges_24 ?_
      refine lv_iload_n hx hb dX12_exchanges_25 rfl (lv_at hl 4 rfl) ?_
      refine lv_iadd hx hb dX12_exchanges_26 ?_
      refine lv_aload_n hx hb dX12_exchanges_27 rfl (lv_at hl 1 rfl) ?_
      refine lv_iload_n hx hb dX12_exchanges_28 rfl (lv_at hl 3 rfl) ?_
      refine lv_iload_n hx hb dX12_exchanges_29 rfl (lv_at hl 4 rfl) ?_
      obtain ⟨v_2, ev_2, hf⟩ := x_bd hf
      refine x_cVi2 C hR hS (S_X12_dullOf  ev_2) (x_k hR 64 rfl) (by decide) rfl mf_X12_dullOf tw_1762 (Nat.le_of_ble_eq_true rfl) (Nat.le_of_ble_eq_true rfl) hl.1 (Nat.le_of_ble_eq_true rfl) dX12_exchanges_30 ⟨Nat.le_refl _, Nat.le_refl _⟩ (fun H locs hR hS => ?_)
      obtain ⟨g3, hf⟩ := x_gd hf
      obtain ⟨h4, eh4, hf⟩ := x_lt hf
      refine x_iast C hR hS (x_k1 (x_k hR 65 rfl)) (x_k2 (x_k hR 65 rfl) g3) dX12_exchanges_33 (fun H locs hR hS => ?_)
      rw [← eh4] at hR
      refine lv_aload_n hx hb dX12_exchanges_34 rfl (lv_at hl 1 rfl) ?_
      refine gf_12_1 C hR (x_k hR 64 rfl) tw_1544 dX12_exchanges_35 ?_
      refine lv_bipush (v := 8) hx hb dX12_exchanges_38 rfl ?_
      refine lv_iconst (v := 3) hx hb dX12_exchanges_40 rfl ?_
      refine lv_iload_n hx hb dX12_exchanges_41 rfl (lv_at hl 3 rfl) ?_
      refine lv_imul hx hb dX12_exchanges_42 ?_
      refine lv_iadd hx hb dX12_exchanges_43 ?_
      refine lv_iload_n hx hb dX12_exchanges_44 rfl (lv_at hl 4 rfl) ?_
      refine lv_iadd hx hb dX12_exchanges_45 ?_
      refine lv_iload hx hb dX12_exchanges_46 (lv_at hl 0 rfl) ?_
      obtain ⟨g5, hf⟩ := x_gd hf
      obtain ⟨h6, eh6, hf⟩ := x_lt hf
      refine x_iast C hR hS (x_k1 (x_k hR 65 rfl)) (x_k2 (x_k hR 65 rfl) g5) dX12_exchanges_48 (fun H locs hR hS => ?_)
      rw [← eh6] at hR
      refine lv_iinc (k := 4) (v := _ + 1) (lv' := [(3, _), (4, _), (0, _), (1, _), (2, _)]) hx hb dX12_exchanges_49 hl rfl (x_inc 1 1 rfl _) (Nat.le_of_ble_eq_true rfl) rfl (fun ls hl => ?_)
      refine lv_goto (tgt := 2) hx hb dX12_exchanges_52 rfl ?_
      exact ih ls _ _ h6 _ _ _  (lv_sub hl [2, 3, 4, 0] rfl) hR hS hf
set_option maxRecDepth 20000 in
theorem S_X12_exchanges {l : Launch} {O : XO} {K : XK} {h : XH} {v1 : Int32} {v2 : Int32}  {h' : XH}  (hf : f_X12_exchanges (oX O) h v1 v2 = some h') : x_M l O K yX12_exchanges cX12_exchanges 5 none 1 22 h [.ref (oX O + 64), .int v1, .int v2] none h' := by
  refine x_enter (by decide) (Nat.le_of_ble_eq_true rfl) (fun p e s m args below meth c C hR ls hl => ?_)
  have hS : va_S (oA O) s.heap s.heap [] := va_S.rf
  have hx := C.1
  have hb := C.2.1
  have hl : lv_has ls 5 [(0, .ref (oX O + 64)), (1, .int v1), (2, .int v2)] := hl
  rw [f_X12_exchanges] at hf
  refine lv_iconst (v := 0) hx hb dX12_exchanges_0 rfl ?_
  refine lv_istore_n (lv' := [(3, _), (0, _), (1, _), (2, _)]) hx hb dX12_exchanges_1 rfl hl (Nat.le_of_ble_eq_true rfl) rfl (fun ls hl => ?_)
  exact B_X12_exchanges_2  C  x_FU ls _ _ h _ _ _  (lv_sub hl [1, 2, 3, 0] rfl) hR hS hf
def f_X12_count_73 (x : Nat) : Nat → XH → Int32 → Int32 → Option (Int32 × XH)
  | 0, _, _, _ => none
  | n + 1, h, v2, v3 => if x_b 0 6927 = true then if (h.1 (x + 65) (0 : Int32).toNatClampNeg) ≤ v3 then some (v2, h) else Option.bind (f_X12_doors x h v3) (fun v_4 => f_X12_count_73 x n h (v2 + v_4) (v3 + 1)) else none
def f_X12_count_108 (x : Nat) : Nat → XH → Int32 → Int32 → Option (Int32 × XH)
  | 0, _, _, _ => none
  | n + 1, h, v2, v3 => if x_b 1 6927 = true then if (h.1 (x + 65) (1 : Int32).toNatClampNeg) ≤ v3 then some (v2, h) else Option.bind (f_X12_isPut x h v3) (fun v_7 => x_let ((v2 + (if v_7 = 0 then 0 else 1)) : Int32) (fun t9 => f_X12_count_108 x n h t9 (v3 + 1))) else none
def f_X12_count_209 (k180 : XH → Int32 → Int32 → Option (Int32 × XH)) (x : Nat) (h : XH) (v3 : Int32) (s0 : Int32) (s1 : Int32) : Option (Int32 × XH) := k180 h (s0 + s1) (v3 + 1)
def f_X12_count_180 (x : Nat) : Nat → XH → Int32 → Int32 → Option (Int32 × XH)
  | 0, _, _, _ => none
  | n + 1, h, v2, v3 => if x_b 1 6927 = true then if (h.1 (x + 65) (1 : Int32).toNatClampNeg) ≤ v3 then some (v2, h) else Option.bind (f_X12_isPut x h v3) (fun v_16 => if v_16 = 0 then f_X12_count_209 (f_X12_count_180 x n) x h v3 v2 0 else Option.bind (f_X12_kindsOf x h v3 0) (fun v_17 => f_X12_count_209 (f_X12_count_180 x n) x h v3 v2 v_17)) else none
def f_X12_count (x : Nat) (h : XH) (v1 : Int32) : Option (Int32 × XH) := x_let (x_i h (x + 64) 0 0) (fun h1 => if v1 = 0 then if x_b 0 6927 = true then some ((h1.1 (x + 65) (0 : Int32).toNatClampNeg), h1) else none else if v1 = 1 then f_X12_count_73 x x_FU h1 0 0 else if v1 = 2 then if x_b 1 6927 = true then some ((h1.1 (x + 65) (1 : Int32).toNatClampNeg), h1) else none else if v1 = 3 then f_X12_count_108 x x_FU h1 0 0 else if v1 = 4 then if x_b 6 6927 = true then some ((h1.1 (x + 65) (6 : Int32).toNatClampNeg), h1) else none else if v1 = 5 then if x_b 2 6927 = true then some ((h1.1 (x + 65) (2 : Int32).toNatClampNeg), h1) else none else if v1 = 6 then if x_b 3 6927 = true then some ((h1.1 (x + 65) (3 : Int32).toNatClampNeg), h1) else none else if v1 = 7 then if x_b 5 6927 = true then some ((h1.1 (x + 65) (5 : Int32).toNatClampNeg), h1) else none else if v1 = 8 then if x_b 4 6927 = true then some ((h1.1 (x + 65) (4 : Int32).toNatClampNeg), h1) else none else if v1 = 9 then f_X12_count_180 x x_FU h1 0 0 else some ((-1), h1))
set_option maxRecDepth 20000 in
theorem B_X12_count_73 {p : Program} {l : Launch} {e : Env} {s : State} {m : MethodId} {args : Array Value} {below : List Frame} {meth : Method} {c : Code} {O : XO} {K : XK} {r : Int32} {h' : XH}   (C : x_C p s m args meth c O cX12_count 4 RX12 (some .int))   : ∀ (n : Nat) (ls : Array Slot) (H : Heap) (locs : List Loc) (h : XH) (v2 : Int32) (v3 : Int32) (hl : lv_has ls 4 [(0, .ref (oX O + 64)), (2, .int v2), (3, .int v3)]) (hR : x_R O K h H) (hS : va_S (oA O) s.heap H locs) (hf : f_X12_count_73 (oX O) n h v2 v3 = some (r, h')), W p l e (x_rm 7 171) s m args below meth c H locs 0 0 (MQ below (x_Qc O K h' (some (.int r))) args s 0 0 (oA O)) (F0 m 73 ls []) := by
  have hx := C.1
  have hb := C.2.1
  intro n
  induction n with
  | zero =>
    intro ls H locs h v2 v3 hl hR hS hf
    rw [f_X12_count_73] at hf
    cases hf
  | succ n ih =>
    intro ls H locs h v2 v3 hl hR hS hf
    rw [f_X12_count_73] at hf
    refine lv_iload_n hx hb dX12_count_73 rfl (lv_at hl 2 rfl) ?_
    refine lv_aload_n hx hb dX12_count_74 rfl (lv_at hl 0 rfl) ?_
    refine gf_12_1 C hR (x_k hR 64 rfl) tw_1544 dX12_count_75 ?_
    refine lv_iconst (v := 0) hx hb dX12_count_78 rfl ?_
    obtain ⟨g3, hf⟩ := x_gd hf
    refine x_iald C hR (x_k1 (x_k hR 65 rfl)) (x_k2 (x_k hR 65 rfl) g3) dX12_count_79 ?_
    refine lv_icmp_ge (tgt := 97) hx hb dX12_count_80 rfl (fun hc => ?_) (fun hc => ?_)
    · have hf := x_ip hc hf
      refine lv_iload_n hx hb dX12_count_97 rfl (lv_at hl 1 rfl) ?_
      cases hf
      exact x_iret C hR hS dX12_count_98
    · have hf := x_in hc hf
      refine lv_iload_n hx hb dX12_count_83 rfl (lv_at hl 1 rfl) ?_
      refine lv_aload_n hx hb dX12_count_84 rfl (lv_at hl 0 rfl) ?_
      refine lv_iload_n hx hb dX12_count_85 rfl (lv_at hl 2 rfl) ?_
      obtain ⟨v_4, ev_4, hf⟩ := x_bd hf
      refine x_cVi1 C hR hS (S_X12_doors  ev_4) (x_k hR 64 rfl) (by decide) rfl mf_X12_doors tw_1782 (Nat.le_of_ble_eq_true rfl) (Nat.le_of_ble_eq_true rfl) hl.1 (Nat.le_of_ble_eq_true rfl) dX12_count_86 ⟨Nat.le_refl _, Nat.le_refl _⟩ (fun H locs hR hS => ?_)
      refine lv_iadd hx hb dX12_count_89 ?_
      refine lv_istore_n (lv' := [(2, _), (0, _), (3, _)]) hx hb dX12_count_90 rfl hl (Nat.le_of_ble_eq_true rfl) rfl (fun ls hl => ?_)
      refine lv_iinc (k := 2) (v := _ + 1) (lv' := [(3, _), (2, _), (0, _)]) hx hb dX12_count_91 hl rfl (x_inc 1 1 rfl _) (Nat.le_of_ble_eq_true rfl) rfl (fun ls hl => ?_)
      refine lv_goto (tgt := 73) hx hb dX12_count_94 rfl ?_
      exact ih ls _ _ h _ _  (lv_sub hl [2, 1, 0] rfl) hR hS hf
set_option maxRecDepth 20000 in
theorem B_X12_count_108 {p : Program} {l : Launch} {e : Env} {s : State} {m : MethodId} {args : Array Value} {below : List Frame} {meth : Method} {c : Code} {O : XO} {K : XK} {r : Int32} {h' : XH}   (C : x_C p s m args meth c O cX12_count 4 RX12 (some .int))   : ∀ (n : Nat) (ls : Array Slot) (H : Heap) (locs : List Loc) (h : XH) (v2 : Int32) (v3 : Int32) (hl : lv_has ls 4 [(0, .ref (oX O + 64)), (2, .int v2), (3, .int v3)]) (hR : x_R O K h H) (hS : va_S (oA O) s.heap H locs) (hf : f_X12_count_108 (oX O) n h v2 v3 = some (r, h')), W p l e (x_rm 7 171) s m args below meth c H locs 0 0 (MQ below (x_Qc O K h' (some (.int r))) args s 0 0 (oA O)) (F0 m 108 ls []) := by
  have hx := C.1
  have hb := C.2.1
  intro n
  induction n with
  | zero =>
    intro ls H locs h v2 v3 hl hR hS hf
    rw [f_X12_count_108] at hf
    cases hf
  | succ n ih =>
    intro ls H locs h v2 v3 hl hR hS hf
    rw [f_X12_count_108] at hf
    refine lv_iload_n hx hb dX12_count_108 rfl (lv_at hl 2 rfl) ?_
    refine lv_aload_n hx hb dX12_count_109 rfl (lv_at hl 0 rfl) ?_
    refine gf_12_1 C hR (x_k hR 64 rfl) tw_1544 dX12_count_110 ?_
    refine lv_iconst (v := 1) hx hb dX12_count_113 rfl ?_
    obtain ⟨g6, hf⟩ := x_gd hf
    refine x_iald C hR (x_k1 (x_k hR 65 rfl)) (x_k2 (x_k hR 65 rfl) g6) dX12_count_114 ?_
    refine lv_icmp_ge (tgt := 140) hx hb dX12_count_115 rfl (fun hc => ?_) (fun hc => ?_)
    · have hf := x_ip hc hf
      refine lv_iload_n hx hb dX12_count_140 rfl (lv_at hl 1 rfl) ?_
      cases hf
      exact x_iret C hR hS dX12_count_141
    · have hf := x_in hc hf
      refine lv_iload_n hx hb dX12_count_118 rfl (lv_at hl 1 rfl) ?_
      refine lv_aload_n hx hb dX12_count_119 rfl (lv_at hl 0 rfl) ?_
      refine lv_iload_n hx hb dX12_count_120 rfl (lv_at hl 2 rfl) ?_
      obtain ⟨v_7, ev_7, hf⟩ := x_bd hf
      refine x_cVi1 C hR hS (S_X12_isPut  ev_7) (x_k hR 64 rfl) (by decide) rfl mf_X12_isPut tw_1818 (Nat.le_of_ble_eq_true rfl) (Nat.le_of_ble_eq_true rfl) hl.1 (Nat.le_of_ble_eq_true rfl) dX12_count_121 ⟨Nat.le_refl _, Nat.le_refl _⟩ (fun H locs hR hS => ?_)
      have kM8 : ∀ (ls : Array Slot) (H : Heap) (locs : List Loc), lv_has ls 4 [(0, .ref (oX O + 64)), (3, .int v3)] → x_R O K h H → va_S (oA O) s.heap H locs → W p l e (x_rm 7 171) s m args below meth c H locs 0 0 (MQ below (x_Qc O K h' (some (.int r))) args s 0 0 (oA O)) (F0 m 132 ls [.int (if v_7 = 0 then 0 else 1), .int v2]) := by
        intro ls H locs hl hR hS
        refine lv_iadd hx hb dX12_count_132 ?_
        obtain ⟨t9, et9, hf⟩ := x_lt hf
        refine x_nmi et9 ?_
        refine lv_istore_n (lv' := [(2, _), (0, _), (3, _)]) hx hb dX12_count_133 rfl hl (Nat.le_of_ble_eq_true rfl) rfl (fun ls hl => ?_)
        refine lv_iinc (k := 2) (v := _ + 1) (lv' := [(3, _), (2, _), (0, _)]) hx hb dX12_count_134 hl rfl (x_inc 1 1 rfl _) (Nat.le_of_ble_eq_true rfl) rfl (fun ls hl => ?_)
        refine lv_goto (tgt := 108) hx hb dX12_count_137 rfl ?_
        exact ih ls _ _ h _ _  (lv_sub hl [2, 1, 0] rfl) hR hS hf
      refine lv_if_eq (tgt := 131) hx hb dX12_count_124 rfl (fun hc => ?_) (fun hc => ?_)
      · try simp only [if_pos hc] at kM8
        refine lv_iconst (v := 0) hx hb dX12_count_131 rfl ?_
        exact kM8 ls _ _ (lv_sub hl [0, 2] rfl) hR hS
      · try simp only [if_neg hc] at kM8
        refine lv_iconst (v := 1) hx hb dX12_count_127 rfl ?_
        refine lv_goto (tgt := 132) hx hb dX12_count_128 rfl ?_
        exact kM8 ls _ _ (lv_sub hl [0, 2] rfl) hR hS
set_option maxRecDepth 20000 in
theorem B_X12_count_209 {p : Program} {l : Launch} {e : Env} {s : State} {m : MethodId} {args : Array Value} {below : List Frame} {meth : Method} {c : Code} {O : XO} {K : XK} {r : Int32} {h' : XH}  {k180 : XH → Int32 → Int32 → Option (Int32 × XH)} (C : x_C p s m args meth c O cX12_count 4 RX12 (some .int)) (hk180 : ∀ (ls : Array Slot) (H : Heap) (locs : List Loc) (h : XH) (v2 : Int32) (v3 : Int32), lv_has ls 4 [(0, .ref (oX O + 64)), (2, .int v2), (3, .int v3)] → x_R O K h H → va_S (oA O) s.heap H locs → k180 h v2 v3 = some (r, h') → W p l e (x_rm 7 171) s m args below meth c H locs 0 0 (MQ below (x_Qc O K h' (some (.int r))) args s 0 0 (oA O)) (F0 m 180 ls []))  (ls : Array Slot) (H : Heap) (locs : List Loc) (h : XH) (v3 : Int32) (s0 : Int32) (s1 : Int32) (hl : lv_has ls 4 [(0, .ref (oX O + 64)), (3, .int v3)]) (hR : x_R O K h H) (hS : va_S (oA O) s.heap H locs) (hf : f_X12_count_209 k180 (oX O) h v3 s0 s1 = some (r, h')) : W p l e (x_rm 7 171) s m args below meth c H locs 0 0 (MQ below (x_Qc O K h' (some (.int r))) args s 0 0 (oA O)) (F0 m 209 ls [.int s1, .int s0]) := by
  have hx := C.1
  have hb := C.2.1
  rw [f_X12_count_209] at hf
  refine lv_iadd hx hb dX12_count_209 ?_
  refine lv_istore_n (lv' := [(2, _), (0, _), (3, _)]) hx hb dX12_count_210 rfl hl (Nat.le_of_ble_eq_true rfl) rfl (fun ls hl => ?_)
  refine lv_iinc (k := 2) (v := _ + 1) (lv' := [(3, _), (2, _), (0, _)]) hx hb dX12_count_211 hl rfl (x_inc 1 1 rfl _) (Nat.le_of_ble_eq_true rfl) rfl (fun ls hl => ?_)
  refine lv_goto (tgt := 180) hx hb dX12_count_214 rfl ?_
  exact hk180 ls _ _ h _ _  (lv_sub hl [2, 1, 0] rfl) hR hS hf
set_option maxRecDepth 20000 in
theorem B_X12_count_180 {p : Program} {l : Launch} {e : Env} {s : State} {m : MethodId} {args : Array Value} {below : List Frame} {meth : Method} {c : Code} {O : XO} {K : XK} {r : Int32} {h' : XH}   (C : x_C p s m args meth c O cX12_count 4 RX12 (some .int))   : ∀ (n : Nat) (ls : Array Slot) (H : Heap) (locs : List Loc) (h : XH) (v2 : Int32) (v3 : Int32) (hl : lv_has ls 4 [(0, .ref (oX O + 64)), (2, .int v2), (3, .int v3)]) (hR : x_R O K h H) (hS : va_S (oA O) s.heap H locs) (hf : f_X12_count_180 (oX O) n h v2 v3 = some (r, h')), W p l e (x_rm 7 171) s m args below meth c H locs 0 0 (MQ below (x_Qc O K h' (some (.int r))) args s 0 0 (oA O)) (F0 m 180 ls []) := by
  have hx := C.1
  have hb := C.2.1
  intro n
  induction n with
  | zero =>
    intro ls H locs h v2 v3 hl hR hS hf
    rw [f_X12_count_180] at hf
    cases hf
  | succ n ih =>
    intro ls H locs h v2 v3 hl hR hS hf
    rw [f_X12_count_180] at hf
    refine lv_iload_n hx hb dX12_count_180 rfl (lv_at hl 2 rfl) ?_
    refine lv_aload_n hx hb dX12_count_181 rfl (lv_at hl 0 rfl) ?_
    refine gf_12_1 C hR (x_k hR 64 rfl) tw_1544 dX12_count_182 ?_
    refine lv_iconst (v := 1) hx hb dX12_count_185 rfl ?_
    obtain ⟨g15, hf⟩ := x_gd hf
    refine x_iald C hR (x_k1 (x_k hR 65 rfl)) (x_k2 (x_k hR 65 rfl) g15) dX12_count_186 ?_
    refine lv_icmp_ge (tgt := 217) hx hb dX12_count_187 rfl (fun hc => ?_) (fun hc => ?_)
    · have hf := x_ip hc hf
      refine lv_iload_n hx hb dX12_count_217 rfl (lv_at hl 1 rfl) ?_
      cases hf
      exact x_iret C hR hS dX12_count_218
    · have hf := x_in hc hf
      refine lv_iload_n hx hb dX12_count_190 rfl (lv_at hl 1 rfl) ?_
      refine lv_aload_n hx hb dX12_count_191 rfl (lv_at hl 0 rfl) ?_
      refine lv_iload_n hx hb dX12_count_192 rfl (lv_at hl 2 rfl) ?_
      obtain ⟨v_16, ev_16, hf⟩ := x_bd hf
      refine x_cVi1 C hR hS (S_X12_isPut  ev_16) (x_k hR 64 rfl) (by decide) rfl mf_X12_isPut tw_1818 (Nat.le_of_ble_eq_true rfl) (Nat.le_of_ble_eq_true rfl) hl.1 (Nat.le_of_ble_eq_true rfl) dX12_count_193 ⟨Nat.le_refl _, Nat.le_refl _⟩ (fun H locs hR hS => ?_)
      refine lv_if_eq (tgt := 208) hx hb dX12_count_196 rfl (fun hc => ?_) (fun hc => ?_)
      · have hf := x_ip hc hf
        refine lv_iconst (v := 0) hx hb dX12_count_208 rfl ?_
        exact B_X12_count_209  C ih  ls _ _ h _ _ _  (lv_sub hl [0, 2] rfl) hR hS hf
      · have hf := x_in hc hf
        refine lv_aload_n hx hb dX12_count_199 rfl (lv_at hl 0 rfl) ?_
        refine lv_iload_n hx hb dX12_count_200 rfl (lv_at hl 2 rfl) ?_
        refine lv_iconst (v := 0) hx hb dX12_count_201 rfl ?_
        obtain ⟨v_17, ev_17, hf⟩ := x_bd hf
        refine x_cVi2 C hR hS (S_X12_kindsOf  ev_17) (x_k hR 64 rfl) (by decide) rfl mf_X12_kindsOf tw_1959 (Nat.le_of_ble_eq_true rfl) (Nat.le_of_ble_eq_true rfl) hl.1 (Nat.le_of_ble_eq_true rfl) dX12_count_202 ⟨Nat.le_refl _, Nat.le_refl _⟩ (fun H locs hR hS => ?_)
        refine lv_goto (tgt := 209) hx hb dX12_count_205 rfl ?_
        exact B_X12_count_209  C ih  ls _ _ h _ _ _  (lv_sub hl [0, 2] rfl) hR hS hf
set_option maxRecDepth 20000 in
theorem S_X12_count {l : Launch} {O : XO} {K : XK} {h : XH} {v1 : Int32}  {r : Int32} {h' : XH}  (hf : f_X12_count (oX O) h v1 = some (r, h')) : x_M l O K yX12_count cX12_count 4 (some .int) 7 171 h [.ref (oX O + 64), .int v1] (some (.int r)) h' := by
  refine x_enter (by decide) (Nat.le_of_ble_eq_true rfl) (fun p e s m args below meth c C hR ls hl => ?_)
  have hS : va_S (oA O) s.heap s.heap [] := va_S.rf
  have hx := C.1
  have hb := C.2.1
  have hl : lv_has ls 4 [(0, .ref (oX O + 64)), (1, .int v1)] := hl
  rw [f_X12_count] at hf
  refine lv_aload_n hx hb dX12_count_0 rfl (lv_at hl 0 rfl) ?_
  refine lv_iconst (v := 0) hx hb dX12_count_1 rfl ?_
  obtain ⟨h1, eh1, hf⟩ := x_lt hf
  refine pf_12_0 C hR hS (x_k hR 64 rfl) tw_1543 dX12_count_2 (fun H locs hR hS => ?_)
  rw [← eh1] at hR
  refine lv_iconst (v := 0) hx hb dX12_count_5 rfl ?_
  refine lv_istore_n (lv' := [(2, _), (0, _), (1, _)]) hx hb dX12_count_6 rfl hl (Nat.le_of_ble_eq_true rfl) rfl (fun ls hl => ?_)
  refine lv_iload_n hx hb dX12_count_7 rfl (lv_at hl 2 rfl) ?_
  by_cases hc0 : v1 = 0
  · have hf := x_ip hc0 hf
    refine lv_tableIn (tgt := 64) hx hb dX12_count_8 (by rw [hc0]; decide) (by rw [hc0]; decide) (by rw [hc0] <;> rfl) rfl ?_
    refine lv_aload_n hx hb dX12_count_64 rfl (lv_at hl 1 rfl) ?_
    refine gf_12_1 C hR (x_k hR 64 rfl) tw_1544 dX12_count_65 ?_
    refine lv_iconst (v := 0) hx hb dX12_count_68 rfl ?_
    obtain ⟨g2, hf⟩ := x_gd hf
    refine x_iald C hR (x_k1 (x_k hR 65 rfl)) (x_k2 (x_k hR 65 rfl) g2) dX12_count_69 ?_
    cases hf
    exact x_iret C hR hS dX12_count_70
  · have hf := x_in hc0 hf
    by_cases hc1 : v1 = 1
    · have hf := x_ip hc1 hf
      refine lv_tableIn (tgt := 71) hx hb dX12_count_8 (by rw [hc1]; decide) (by rw [hc1]; decide) (by rw [hc1] <;> rfl) rfl ?_
      refine lv_iconst (v := 0) hx hb dX12_count_71 rfl ?_
      refine lv_istore_n (lv' := [(3, _), (2, _), (0, _), (1, _)]) hx hb dX12_count_72 rfl hl (Nat.le_of_ble_eq_true rfl) rfl (fun ls hl => ?_)
      exact B_X12_count_73  C  x_FU ls _ _ h1 _ _  (lv_sub hl [2, 1, 0] rfl) hR hS hf
    · have hf := x_in hc1 hf
      by_cases hc2 : v1 = 2
      · have hf := x_ip hc2 hf
        refine lv_tableIn (tgt := 99) hx hb dX12_count_8 (by rw [hc2]; decide) (by rw [hc2]; decide) (by rw [hc2] <;> rfl) rfl ?_
        refine lv_aload_n hx hb dX12_count_99 rfl (lv_at hl 1 rfl) ?_
        refine gf_12_1 C hR (x_k hR 64 rfl) tw_1544 dX12_count_100 ?_
        refine lv_iconst (v := 1) hx hb dX12_count_103 rfl ?_
        obtain ⟨g5, hf⟩ := x_gd hf
        refine x_iald C hR (x_k1 (x_k hR 65 rfl)) (x_k2 (x_k hR 65 rfl) g5) dX12_count_104 ?_
        cases hf
        exact x_iret C hR hS dX12_count_105
      · have hf := x_in hc2 hf
        by_cases hc3 : v1 = 3
        · have hf := x_ip hc3 hf
          refine lv_tableIn (tgt := 106) hx hb dX12_count_8 (by rw [hc3]; decide) (by rw [hc3]; decide) (by rw [hc3] <;> rfl) rfl ?_
          refine lv_iconst (v := 0) hx hb dX12_count_106 rfl ?_
          refine lv_istore_n (lv' := [(3, _), (2, _), (0, _), (1, _)]) hx hb dX12_count_107 rfl hl (Nat.le_of_ble_eq_true rfl) rfl (fun ls hl => ?_)
          exact B_X12_count_108  C  x_FU ls _ _ h1 _ _  (lv_sub hl [2, 1, 0] rfl) hR hS hf
        · have hf := x_in hc3 hf
          by_cases hc4 : v1 = 4
          · have hf := x_ip hc4 hf
            refine lv_tableIn (tgt := 142) hx hb dX12_count_8 (by rw [hc4]; decide) (by rw [hc4]; decide) (by rw [hc4] <;> rfl) rfl ?_
            refine lv_aload_n hx hb dX12_count_142 rfl (lv_at hl 1 rfl) ?_
            refine gf_12_1 C hR (x_k hR 64 rfl) tw_1544 dX12_count_143 ?_
            refine lv_bipush (v := 6) hx hb dX12_count_146 rfl ?_
            obtain ⟨g10, hf⟩ := x_gd hf
            refine x_iald C hR (x_k1 (x_k hR 65 rfl)) (x_k2 (x_k hR 65 rfl) g10) dX12_count_148 ?_
            cases hf
            exact x_iret C hR hS dX12_count_149
          · have hf := x_in hc4 hf
            by_cases hc5 : v1 = 5
            · have hf := x_ip hc5 hf
              refine lv_tableIn (tgt := 150) hx hb dX12_count_8 (by rw [hc5]; decide) (by rw [hc5]; decide) (by rw [hc5] <;> rfl) rfl ?_
              refine lv_aload_n hx hb dX12_count_150 rfl (lv_at hl 1 rfl) ?_
              refine gf_12_1 C hR (x_k hR 64 rfl) tw_1544 dX12_count_151 ?_
              refine lv_iconst (v := 2) hx hb dX12_count_154 rfl ?_
              obtain ⟨g11, hf⟩ := x_gd hf
              refine x_iald C hR (x_k1 (x_k hR 65 rfl)) (x_k2 (x_k hR 65 rfl) g11) dX12_count_155 ?_
              cases hf
              exact x_iret C hR hS dX12_count_156
            · have hf := x_in hc5 hf
              by_cases hc6 : v1 = 6
              · have hf := x_ip hc6 hf
                refine lv_tableIn (tgt := 157) hx hb dX12_count_8 (by rw [hc6]; decide) (by rw [hc6]; decide) (by rw [hc6] <;> rfl) rfl ?_
                refine lv_aload_n hx hb dX12_count_157 rfl (lv_at hl 1 rfl) ?_
                refine gf_12_1 C hR (x_k hR 64 rfl) tw_1544 dX12_count_158 ?_
                refine lv_iconst (v := 3) hx hb dX12_count_161 rfl ?_
                obtain ⟨g12, hf⟩ := x_gd hf
                refine x_iald C hR (x_k1 (x_k hR 65 rfl)) (x_k2 (x_k hR 65 rfl) g12) dX12_count_162 ?_
                cases hf
                exact x_iret C hR hS dX12_count_163
              · have hf := x_in hc6 hf
                by_cases hc7 : v1 = 7
                · have hf := x_ip hc7 hf
                  refine lv_tableIn (tgt := 164) hx hb dX12_count_8 (by rw [hc7]; decide) (by rw [hc7]; decide) (by rw [hc7] <;> rfl) rfl ?_
                  refine lv_aload_n hx hb dX12_count_164 rfl (lv_at hl 1 rfl) ?_
                  refine gf_12_1 C hR (x_k hR 64 rfl) tw_1544 dX12_count_165 ?_
                  refine lv_iconst (v := 5) hx hb dX12_count_168 rfl ?_
                  obtain ⟨g13, hf⟩ := x_gd hf
                  refine x_iald C hR (x_k1 (x_k hR 65 rfl)) (x_k2 (x_k hR 65 rfl) g13) dX12_count_169 ?_
                  cases hf
                  exact x_iret C hR hS dX12_count_170
                · have hf := x_in hc7 hf
                  by_cases hc8 : v1 = 8
                  · have hf := x_ip hc8 hf
                    refine lv_tableIn (tgt := 171) hx hb dX12_count_8 (by rw [hc8]; decide) (by rw [hc8]; decide) (by rw [hc8] <;> rfl) rfl ?_
                    refine lv_aload_n hx hb dX12_count_171 rfl (lv_at hl 1 rfl) ?_
                    refine gf_12_1 C hR (x_k hR 64 rfl) tw_1544 dX12_count_172 ?_
                    refine lv_iconst (v := 4) hx hb dX12_count_175 rfl ?_
                    obtain ⟨g14, hf⟩ := x_gd hf
                    refine x_iald C hR (x_k1 (x_k hR 65 rfl)) (x_k2 (x_k hR 65 rfl) g14) dX12_count_176 ?_
                    cases hf
                    exact x_iret C hR hS dX12_count_177
                  · have hf := x_in hc8 hf
                    by_cases hc9 : v1 = 9
                    · have hf := x_ip hc9 hf
                      refine lv_tableIn (tgt := 178) hx hb dX12_count_8 (by rw [hc9]; decide) (by rw [hc9]; decide) (by rw [hc9] <;> rfl) rfl ?_
                      refine lv_iconst (v := 0) hx hb dX12_count_178 rfl ?_
                      refine lv_istore_n (lv' := [(3, _), (2, _), (0, _), (1, _)]) hx hb dX12_count_179 rfl hl (Nat.le_of_ble_eq_true rfl) rfl (fun ls hl => ?_)
                      exact B_X12_count_180  C  x_FU ls _ _ h1 _ _  (lv_sub hl [2, 1, 0] rfl) hR hS hf
                    · have hf := x_in hc9 hf
                      refine lv_tableOut (tgt := 219) hx hb dX12_count_8 (x_tab v1 (fun z h1 h2 => ?_)) rfl ?_
                      · have hz : z = 0 ∨ z = 1 ∨ z = 2 ∨ z = 3 ∨ z = 4 ∨ z = 5 ∨ z = 6 ∨ z = 7 ∨ z = 8 ∨ z = 9 := by omega
                        rcases hz with rfl | rfl | rfl | rfl | rfl | rfl | rfl | rfl | rfl | rfl
                        · exact hc0
                        · exact hc1
                        · exact hc2
                        · exact hc3
                        · exact hc4
                        · exact hc5
                        · exact hc6
                        · exact hc7
                        · exact hc8
                        · exact hc9
                      · refine lv_iconst (v := (-1)) hx hb dX12_count_219 rfl ?_
                        cases hf
                        exact x_iret C hR hS dX12_count_220
def f_J6_numberOfLeadingZeros_0f7a4 (h : XH) (v0 : Int32) : Int32 := if 0 < v0 then ((if (if (if (if v0 < 65536 then v0 else (x_ushr v0 16)) < 256 then (if v0 < 65536 then v0 else (x_ushr v0 16)) else (x_ushr (if v0 < 65536 then v0 else (x_ushr v0 16)) 8)) < 16 then (if (if v0 < 65536 then v0 else (x_ushr v0 16)) < 256 then (if v0 < 65536 then v0 else (x_ushr v0 16)) else (x_ushr (if v0 < 65536 then v0 else (x_ushr v0 16)) 8)) else (x_ushr (if (if v0 < 65536 then v0 else (x_ushr v0 16)) < 256 then (if v0 < 65536 then v0 else (x_ushr v0 16)) else (x_ushr (if v0 < 65536 then v0 else (x_ushr v0 16)) 8)) 4)) < 4 then (if (if (if v0 < 65536 then v0 else (x_ushr v0 16)) < 256 then (if v0 < 65536 then v0 else (x_ushr v0 16)) else (x_ushr (if v0 < 65536 then v0 else (x_ushr v0 16)) 8)) < 16 then (if (if v0 < 65536 then v0 else (x_ushr v0 16)) < 256 then (if v0 < 65536 then 31 else (31 + (-16))) else ((if v0 < 65536 then 31 else (31 + (-16))) + (-8))) else ((if (if v0 < 65536 then v0 else (x_ushr v0 16)) < 256 then (if v0 < 65536 then 31 else (31 + (-16))) else ((if v0 < 65536 then 31 else (31 + (-16))) + (-8))) + (-4))) else ((if (if (if v0 < 65536 then v0 else (x_ushr v0 16)) < 256 then (if v0 < 65536 then v0 else (x_ushr v0 16)) else (x_ushr (if v0 < 65536 then v0 else (x_ushr v0 16)) 8)) < 16 then (if (if v0 < 65536 then v0 else (x_ushr v0 16)) < 256 then (if v0 < 65536 then 31 else (31 + (-16))) else ((if v0 < 65536 then 31 else (31 + (-16))) + (-8))) else ((if (if v0 < 65536 then v0 else (x_ushr v0 16)) < 256 then (if v0 < 65536 then 31 else (31 + (-16))) else ((if v0 < 65536 then 31 else (31 + (-16))) + (-8))) + (-4))) + (-2))) - (x_ushr (if (if (if (if v0 < 65536 then v0 else (x_ushr v0 16)) < 256 then (if v0 < 65536 then v0 else (x_ushr v0 16)) else (x_ushr (if v0 < 65536 then v0 else (x_ushr v0 16)) 8)) < 16 then (if (if v0 < 65536 then v0 else (x_ushr v0 16)) < 256 then (if v0 < 65536 then v0 else (x_ushr v0 16)) else (x_ushr (if v0 < 65536 then v0 else (x_ushr v0 16)) 8)) else (x_ushr (if (if v0 < 65536 then v0 else (x_ushr v0 16)) < 256 then (if v0 < 65536 then v0 else (x_ushr v0 16)) else (x_ushr (if v0 < 65536 then v0 else (x_ushr v0 16)) 8)) 4)) < 4 then (if (if (if v0 < 65536 then v0 else (x_ushr v0 16)) < 256 then (if v0 < 65536 then v0 else (x_ushr v0 16)) else (x_ushr (if v0 < 65536 then v0 else (x_ushr v0 16)) 8)) < 16 then (if (if v0 < 65536 then v0 else (x_ushr v0 16)) < 256 then (if v0 < 65536 then v0 else (x_ushr v0 16)) else (x_ushr (if v0 < 65536 then v0 else (x_ushr v0 16)) 8)) else (x_ushr (if (if v0 < 65536 then v0 else (x_ushr v0 16)) < 256 then (if v0 < 65536 then v0 else (x_ushr v0 16)) else (x_ushr (if v0 < 65536 then v0 else (x_ushr v0 16)) 8)) 4)) else (x_ushr (if (if (if v0 < 65536 then v0 else (x_ushr v0 16)) < 256 then (if v0 < 65536 then v0 else (x_ushr v0 16)) else (x_ushr (if v0 < 65536 then v0 else (x_ushr v0 16)) 8)) < 16 then (if (if v0 < 65536 then v0 else (x_ushr v0 16)) < 256 then (if v0 < 65536 then v0 else (x_ushr v0 16)) else (x_ushr (if v0 < 65536 then v0 else (x_ushr v0 16)) 8)) else (x_ushr (if (if v0 < 65536 then v0 else (x_ushr v0 16)) < 256 then (if v0 < 65536 then v0 else (x_ushr v0 16)) else (x_ushr (if v0 < 65536 then v0 else (x_ushr v0 16)) 8)) 4)) 2)) 1)) else (if v0 = 0 then 32 else 0)
set_option maxRecDepth 20000 in
theorem S_J6_numberOfLeadingZeros_0f7a4 {l : Launch} {O : XO} {K : XK} {h : XH} {v0 : Int32}  {r : Int32}  (hf : f_J6_numberOfLeadingZeros_0f7a4 h v0 = r) : x_M l O K yJ6_numberOfLeadingZeros_0f7a4 cJ6_numberOfLeadingZeros_0f7a4 2 (some .int) 0 0 h [.int v0] (some (.int r)) h := by
  refine x_enter (by decide) (Nat.le_of_ble_eq_true rfl) (fun p e s m args below meth c C hR ls hl => ?_)
  have hS : va_S (oA O) s.heap s.heap [] := va_S.rf
  have hx := C.1
  have hb := C.2.1
  have hl : lv_has ls 2 [(0, .int v0)] := hl
  rw [f_J6_numberOfLeadingZeros_0f7a4] at hf
  refine lv_iload_n hx hb dJ6_numberOfLeadingZeros_0f7a4_0 rfl (lv_at hl 0 rfl) ?_
  refine lv_if_gt (tgt := 15) hx hb dJ6_numberOfLeadingZeros_0f7a4_1 rfl (fun hc => ?_) (fun hc => ?_)
  · have hf := x_ip hc hf
    refine lv_bipush (v := 31) hx hb dJ6_numberOfLeadingZeros_0f7a4_15 rfl ?_
    refine lv_istore_n (lv' := [(1, _), (0, _)]) hx hb dJ6_numberOfLeadingZeros_0f7a4_17 rfl hl (Nat.le_of_ble_eq_true rfl) rfl (fun ls hl => ?_)
    refine lv_iload_n hx hb dJ6_numberOfLeadingZeros_0f7a4_18 rfl (lv_at hl 1 rfl) ?_
    refine lv_ldcw hx hb C.2.2.2.1 (C.2.2.2.2.1 _ tw_2035) dJ6_numberOfLeadingZeros_0f7a4_19 ?_
    have kM1 : ∀ (ls : Array Slot) (H : Heap) (locs : List Loc), lv_has ls 2 [(0, .int (if v0 < 65536 then v0 else (x_ushr v0 16))), (1, .int (if v0 < 65536 then 31 else (31 + (-16))))] → x_R O K h H → va_S (oA O) s.heap H locs → W p l e (x_rm 0 0) s m args below meth c H locs 0 0 (MQ below (x_Qc O K h (some (.int r))) args s 0 0 (oA O)) (F0 m 33 ls []) := by
      intro ls H locs hl hR hS
      refine lv_iload_n hx hb dJ6_numberOfLeadingZeros_0f7a4_33 rfl (lv_at hl 0 rfl) ?_
      refine lv_sipush (v := 256) hx hb dJ6_numberOfLeadingZeros_0f7a4_34 rfl ?_
      have kM2 : ∀ (ls : Array Slot) (H : Heap) (locs : List Loc), lv_has ls 2 [(0, .int (if (if v0 < 65536 then v0 else (x_ushr v0 16)) < 256 then (if v0 < 65536 then v0 else (x_ushr v0 16)) else (x_ushr (if v0 < 65536 then v0 else (x_ushr v0 16)) 8))), (1, .int (if (if v0 < 65536 then v0 else (x_ushr v0 16)) < 256 then (if v0 < 65536 then 31 else (31 + (-16))) else ((if v0 < 65536 then 31 else (31 + (-16))) + (-8))))] → x_R O K h H → va_S (oA O) s.heap H locs → W p l e (x_rm 0 0) s m args below meth c H locs 0 0 (MQ below (x_Qc O K h (some (.int r))) args s 0 0 (oA O)) (F0 m 48 ls []) := by
        intro ls H locs hl hR hS
        refine lv_iload_n hx hb dJ6_numberOfLeadingZeros_0f7a4_48 rfl (lv_at hl 0 rfl) ?_
        refine lv_bipush (v := 16) hx hb dJ6_numberOfLeadingZeros_0f7a4_49 rfl ?_
        have kM3 : ∀ (ls : Array Slot) (H : Heap) (locs : List Loc), lv_has ls 2 [(0, .int (if (if (if v0 < 65536 then v0 else (x_ushr v0 16)) < 256 then (if v0 < 65536 then v0 else (x_ushr v0 16)) else (x_ushr (if v0 < 65536 then v0 else (x_ushr v0 16)) 8)) < 16 then (if (if v0 < 65536 then v0 else (x_ushr v0 16)) < 256 then (if v0 < 65536 then v0 else (x_ushr v0 16)) else (x_ushr (if v0 < 65536 then v0 else (x_ushr v0 16)) 8)) else (x_ushr (if (if v0 < 65536 then v0 else (x_ushr v0 16)) < 256 then (if v0 < 65536 then v0 else (x_ushr v0 16)) else (x_ushr (if v0 < 65536 then v0 else (x_ushr v0 16)) 8)) 4))), (1, .int (if (if (if v0 < 65536 then v0 else (x_ushr v0 16)) < 256 then (if v0 < 65536 then v0 else (x_ushr v0 16)) else (x_ushr (if v0 < 65536 then v0 else (x_ushr v0 16)) 8)) < 16 then (if (if v0 < 65536 then v0 else (x_ushr v0 16)) < 256 then (if v0 < 65536 then 31 else (31 + (-16))) else ((if v0 < 65536 then 31 else (31 + (-16))) + (-8))) else ((if (if v0 < 65536 then v0 else (x_ushr v0 16)) < 256 then (if v0 < 65536 then 31 else (31 + (-16))) else ((if v0 < 65536 then 31 else (31 + (-16))) + (-8))) + (-4))))] → x_R O K h H → va_S (oA O) s.heap H locs → W p l e (x_rm 0 0) s m args below meth c H locs 0 0 (MQ below (x_Qc O K h (some (.int r))) args s 0 0 (oA O)) (F0 m 61 ls []) := by
          intro ls H locs hl hR hS
          refine lv_iload_n hx hb dJ6_numberOfLeadingZeros_0f7a4_61 rfl (lv_at hl 0 rfl) ?_
          refine lv_iconst (v := 4) hx hb dJ6_numberOfLeadingZeros_0f7a4_62 rfl ?_
          have kM4 : ∀ (ls : Array Slot) (H : Heap) (locs : List Loc), lv_has ls 2 [(0, .int (if (if (if (if v0 < 65536 then v0 else (x_ushr v0 16)) < 256 then (if v0 < 65536 then v0 else (x_ushr v0 16)) else (x_ushr (if v0 < 65536 then v0 else (x_ushr v0 16)) 8)) < 16 then (if (if v0 < 65536 then v0 else (x_ushr v0 16)) < 256 then (if v0 < 65536 then v0 else (x_ushr v0 16)) else (x_ushr (if v0 < 65536 then v0 else (x_ushr v0 16)) 8)) else (x_ushr (if (if v0 < 65536 then v0 else (x_ushr v0 16)) < 256 then (if v0 < 65536 then v0 else (x_ushr v0 16)) else (x_ushr (if v0 < 65536 then v0 else (x_ushr v0 16)) 8)) 4)) < 4 then (if (if (if v0 < 65536 then v0 else (x_ushr v0 16)) < 256 then (if v0 < 65536 then v0 else (x_ushr v0 16)) else (x_ushr (if v0 < 65536 then v0 else (x_ushr v0 16)) 8)) < 16 then (if (if v0 < 65536 then v0 else (x_ushr v0 16)) < 256 then (if v0 < 65536 then v0 else (x_ushr v0 16)) else (x_ushr (if v0 < 65536 then v0 else (x_ushr v0 16)) 8)) else (x_ushr (if (if v0 < 65536 then v0 else (x_ushr v0 16)) < 256 then (if v0 < 65536 then v0 else (x_ushr v0 16)) else (x_ushr (if v0 < 65536 then v0 else (x_ushr v0 16)) 8)) 4)) else (x_ushr (if (if (if v0 < 65536 then v0 else (x_ushr v0 16)) < 256 then (if v0 < 65536 then v0 else (x_ushr v0 16)) else (x_ushr (if v0 < 65536 then v0 else (x_ushr v0 16)) 8)) < 16 then (if (if v0 < 65536 then v0 else (x_ushr v0 16)) < 256 then (if v0 < 65536 then v0 else (x_ushr v0 16)) else (x_ushr (if v0 < 65536 then v0 else (x_ushr v0 16)) 8)) else (x_ushr (if (if v0 < 65536 then v0 else (x_ushr v0 16)) < 256 then (if v0 < 65536 then v0 else (x_ushr v0 16)) else (x_ushr (if v0 < 65536 then v0 else (x_ushr v0 16)) 8)) 4)) 2))), (1, .int (if (if (if (if v0 < 65536 then v0 else (x_ushr v0 16)) < 256 then (if v0 < 65536 then v0 else (x_ushr v0 16)) else (x_ushr (if v0 < 65536 then v0 else (x_ushr v0 16)) 8)) < 16 then (if (if v0 < 65536 then v0 else (x_ushr v0 16)) < 256 then (if v0 < 65536 then v0 else (x_ushr v0 16)) else (x_ushr (if v0 < 65536 then v0 else (x_ushr v0 16)) 8)) else (x_ushr (if (if v0 < 65536 then v0 else (x_ushr v0 16)) < 256 then (if v0 < 65536 then v0 else (x_ushr v0 16)) else (x_ushr (if v0 < 65536 then v0 else (x_ushr v0 16)) 8)) 4)) < 4 then (if (if (if v0 < 65536 then v0 else (x_ushr v0 16)) < 256 then (if v0 < 65536 then v0 else (x_ushr v0 16)) else (x_ushr (if v0 < 65536 then v0 else (x_ushr v0 16)) 8)) < 16 then (if (if v0 < 65536 then v0 else (x_ushr v0 16)) < 256 then (if v0 < 65536 then 31 else (31 + (-16))) else ((if v0 < 65536 then 31 else (31 + (-16))) + (-8))) else ((if (if v0 < 65536 then v0 else (x_ushr v0 16)) < 256 then (if v0 < 65536 then 31 else (31 + (-16))) else ((if v0 < 65536 then 31 else (31 + (-16))) + (-8))) + (-4))) else ((if (if (if v0 < 65536 then v0 else (x_ushr v0 16)) < 256 then (if v0 < 65536 then v0 else (x_ushr v0 16)) else (x_ushr (if v0 < 65536 then v0 else (x_ushr v0 16)) 8)) < 16 then (if (if v0 < 65536 then v0 else (x_ushr v0 16)) < 256 then (if v0 < 65536 then 31 else (31 + (-16))) else ((if v0 < 65536 then 31 else (31 + (-16))) + (-8))) else ((if (if v0 < 65536 then v0 else (x_ushr v0 16)) < 256 then (if v0 < 65536 then 31 else (31 + (-16))) else ((if v0 < 65536 then 31 else (31 + (-16))) + (-8))) + (-4))) + (-2))))] → x_R O K h H → va_S (oA O) s.heap H locs → W p l e (x_rm 0 0) s m args below meth c H locs 0 0 (MQ below (x_Qc O K h (some (.int r))) args s 0 0 (oA O)) (F0 m 73 ls []) := by
            intro ls H locs hl hR hS
            refine lv_iload_n hx hb dJ6_numberOfLeadingZeros_0f7a4_73 rfl (lv_at hl 1 rfl) ?_
            refine lv_iload_n hx hb dJ6_numberOfLeadingZeros_0f7a4_74 rfl (lv_at hl 0 rfl) ?_
            refine lv_iconst (v := 1) hx hb dJ6_numberOfLeadingZeros_0f7a4_75 rfl ?_
            refine lv_iushr hx hb dJ6_numberOfLeadingZeros_0f7a4_76 rfl ?_
            refine lv_isub hx hb dJ6_numberOfLeadingZeros_0f7a4_77 ?_
            cases hf
            exact x_iret C hR hS dJ6_numberOfLeadingZeros_0f7a4_78
          refine lv_icmp_lt (tgt := 73) hx hb dJ6_numberOfLeadingZeros_0f7a4_63 rfl (fun hc => ?_) (fun hc => ?_)
          · try simp only [if_pos hc] at kM4
            exact kM4 ls _ _ (lv_sub hl [0, 1] rfl) hR hS
          · try simp only [if_neg hc] at kM4
            refine lv_iinc (k := 1) (v := _ + (-2)) (lv' := [(1, _), (0, _)]) hx hb dJ6_numberOfLeadingZeros_0f7a4_66 hl rfl (x_inc (-2) (-2) rfl _) (Nat.le_of_ble_eq_true rfl) rfl (fun ls hl => ?_)
            refine lv_iload_n hx hb dJ6_numberOfLeadingZeros_0f7a4_69 rfl (lv_at hl 1 rfl) ?_
            refine lv_iconst (v := 2) hx hb dJ6_numberOfLeadingZeros_0f7a4_70 rfl ?_
            refine lv_iushr hx hb dJ6_numberOfLeadingZeros_0f7a4_71 rfl ?_
            refine lv_istore_n (lv' := [(0, _), (1, _)]) hx hb dJ6_numberOfLeadingZeros_0f7a4_72 rfl hl (Nat.le_of_ble_eq_true rfl) rfl (fun ls hl => ?_)
            exact kM4 ls _ _ (lv_sub hl [0, 1] rfl) hR hS
        refine lv_icmp_lt (tgt := 61) hx hb dJ6_numberOfLeadingZeros_0f7a4_51 rfl (fun hc => ?_) (fun hc => ?_)
        · try simp only [if_pos hc] at kM3
          exact kM3 ls _ _ (lv_sub hl [0, 1] rfl) hR hS
        · try simp only [if_neg hc] at kM3
          refine lv_iinc (k := 1) (v := _ + (-4)) (lv' := [(1, _), (0, _)]) hx hb dJ6_numberOfLeadingZeros_0f7a4_54 hl rfl (x_inc (-4) (-4) rfl _) (Nat.le_of_ble_eq_true rfl) rfl (fun ls hl => ?_)
          refine lv_iload_n hx hb dJ6_numberOfLeadingZeros_0f7a4_57 rfl (lv_at hl 1 rfl) ?_
          refine lv_iconst (v := 4) hx hb dJ6_numberOfLeadingZeros_0f7a4_58 rfl ?_
          refine lv_iushr hx hb dJ6_numberOfLeadingZeros_0f7a4_59 rfl ?_
          refine lv_istore_n (lv' := [(0, _), (1, _)]) hx hb dJ6_numberOfLeadingZeros_0f7a4_60 rfl hl (Nat.le_of_ble_eq_true rfl) rfl (fun ls hl => ?_)
          exact kM3 ls _ _ (lv_sub hl [0, 1] rfl) hR hS
      refine lv_icmp_lt (tgt := 48) hx hb dJ6_numberOfLeadingZeros_0f7a4_37 rfl (fun hc => ?_) (fun hc => ?_)
      · try simp only [if_pos hc] at kM2
        exact kM2 ls _ _ (lv_sub hl [0, 1] rfl) hR hS
      · try simp only [if_neg hc] at kM2
        refine lv_iinc (k := 1) (v := _ + (-8)) (lv' := [(1, _), (0, _)]) hx hb dJ6_numberOfLeadingZeros_0f7a4_40 hl rfl (x_inc (-8) (-8) rfl _) (Nat.le_of_ble_eq_true rfl) rfl (fun ls hl => ?_)
        refine lv_iload_n hx hb dJ6_numberOfLeadingZeros_0f7a4_43 rfl (lv_at hl 1 rfl) ?_
        refine lv_bipush (v := 8) hx hb dJ6_numberOfLeadingZeros_0f7a4_44 rfl ?_
        refine lv_iushr hx hb dJ6_numberOfLeadingZeros_0f7a4_46 rfl ?_
        refine lv_istore_n (lv' := [(0, _), (1, _)]) hx hb dJ6_numberOfLeadingZeros_0f7a4_47 rfl hl (Nat.le_of_ble_eq_true rfl) rfl (fun ls hl => ?_)
        exact kM2 ls _ _ (lv_sub hl [0, 1] rfl) hR hS
    refine lv_icmp_lt (tgt := 33) hx hb dJ6_numberOfLeadingZeros_0f7a4_22 rfl (fun hc => ?_) (fun hc => ?_)
    · try simp only [if_pos hc] at kM1
      exact kM1 ls _ _ (lv_sub hl [1, 0] rfl) hR hS
    · try simp only [if_neg hc] at kM1
      refine lv_iinc (k := 0) (v := _ + (-16)) (lv' := [(1, _), (0, _)]) hx hb dJ6_numberOfLeadingZeros_0f7a4_25 hl rfl (x_inc (-16) (-16) rfl _) (Nat.le_of_ble_eq_true rfl) rfl (fun ls hl => ?_)
      refine lv_iload_n hx hb dJ6_numberOfLeadingZeros_0f7a4_28 rfl (lv_at hl 1 rfl) ?_
      refine lv_bipush (v := 16) hx hb dJ6_numberOfLeadingZeros_0f7a4_29 rfl ?_
      refine lv_iushr hx hb dJ6_numberOfLeadingZeros_0f7a4_31 rfl ?_
      refine lv_istore_n (lv' := [(0, _), (1, _)]) hx hb dJ6_numberOfLeadingZeros_0f7a4_32 rfl hl (Nat.le_of_ble_eq_true rfl) rfl (fun ls hl => ?_)
      exact kM1 ls _ _ (lv_sub hl [0, 1] rfl) hR hS
  · have hf := x_in hc hf
    refine lv_iload_n hx hb dJ6_numberOfLeadingZeros_0f7a4_4 rfl (lv_at hl 0 rfl) ?_
    have kM5 : ∀ (ls : Array Slot) (H : Heap) (locs : List Loc), lv_has ls 2 [] → x_R O K h H → va_S (oA O) s.heap H locs → W p l e (x_rm 0 0) s m args below meth c H locs 0 0 (MQ below (x_Qc O K h (some (.int r))) args s 0 0 (oA O)) (F0 m 14 ls [.int (if v0 = 0 then 32 else 0)]) := by
      intro ls H locs hl hR hS
      cases hf
      exact x_iret C hR hS dJ6_numberOfLeadingZeros_0f7a4_14
    refine lv_if_ne (tgt := 13) hx hb dJ6_numberOfLeadingZeros_0f7a4_5 rfl (fun hc => ?_) (fun hc => ?_)
    · try simp only [if_neg hc] at kM5
      refine lv_iconst (v := 0) hx hb dJ6_numberOfLeadingZeros_0f7a4_13 rfl ?_
      exact kM5 ls _ _ (lv_sub hl [] rfl) hR hS
    · try simp only [if_pos hc] at kM5
      refine lv_bipush (v := 32) hx hb dJ6_numberOfLeadingZeros_0f7a4_8 rfl ?_
      refine lv_goto (tgt := 14) hx hb dJ6_numberOfLeadingZeros_0f7a4_10 rfl ?_
      exact kM5 ls _ _ (lv_sub hl [] rfl) hR hS
def f_J6_bitCount_0f7a4 (h : XH) (v0 : Int32) : Int32 := x_let ((v0 - ((x_ushr v0 1) &&& 1431655765)) : Int32) (fun t1 => x_let (((t1 &&& 858993459) + ((x_ushr t1 2) &&& 858993459)) : Int32) (fun t2 => x_let (((t2 + (x_ushr t2 4)) &&& 252645135) : Int32) (fun t3 => x_let (((t3 + (x_ushr t3 8)) + (x_ushr (t3 + (x_ushr t3 8)) 16)) : Int32) (fun t4 => (t4 &&& 63)))))
set_option maxRecDepth 20000 in
theorem S_J6_bitCount_0f7a4 {l : Launch} {O : XO} {K : XK} {h : XH} {v0 : Int32}  {r : Int32}  (hf : f_J6_bitCount_0f7a4 h v0 = r) : x_M l O K yJ6_bitCount_0f7a4 cJ6_bitCount_0f7a4 1 (some .int) 0 0 h [.int v0] (some (.int r)) h := by
  refine x_enter (by decide) (Nat.le_of_ble_eq_true rfl) (fun p e s m args below meth c C hR ls hl => ?_)
  have hS : va_S (oA O) s.heap s.heap [] := va_S.rf
  have hx := C.1
  have hb := C.2.1
  have hl : lv_has ls 1 [(0, .int v0)] := hl
  rw [f_J6_bitCount_0f7a4] at hf
  refine lv_iload_n hx hb dJ6_bitCount_0f7a4_0 rfl (lv_at hl 0 rfl) ?_
  refine lv_iload_n hx hb dJ6_bitCount_0f7a4_1 rfl (lv_at hl 0 rfl) ?_
  refine lv_iconst (v := 1) hx hb dJ6_bitCount_0f7a4_2 rfl ?_
  refine lv_iushr hx hb dJ6_bitCount_0f7a4_3 rfl ?_
  refine lv_ldcw hx hb C.2.2.2.1 (C.2.2.2.2.1 _ tw_1375) dJ6_bitCount_0f7a4_4 ?_
  refine lv_iand hx hb dJ6_bitCount_0f7a4_7 ?_
  refine lv_isub hx hb dJ6_bitCount_0f7a4_8 ?_
  obtain ⟨t1, et1, hf⟩ := x_lt hf
  refine x_nmi et1 ?_
  refine lv_istore_n (lv' := [(0, _)]) hx hb dJ6_bitCount_0f7a4_9 rfl hl (Nat.le_of_ble_eq_true rfl) rfl (fun ls hl => ?_)
  refine lv_iload_n hx hb dJ6_bitCount_0f7a4_10 rfl (lv_at hl 0 rfl) ?_
  refine lv_ldcw hx hb C.2.2.2.1 (C.2.2.2.2.1 _ tw_1376) dJ6_bitCount_0f7a4_11 ?_
  refine lv_iand hx hb dJ6_bitCount_0f7a4_14 ?_
  refine lv_iload_n hx hb dJ6_bitCount_0f7a4_15 rfl (lv_at hl 0 rfl) ?_
  refine lv_iconst (v := 2) hx hb dJ6_bitCount_0f7a4_16 rfl ?_
  refine lv_iushr hx hb dJ6_bitCount_0f7a4_17 rfl ?_
  refine lv_ldcw hx hb C.2.2.2.1 (C.2.2.2.2.1 _ tw_1376) dJ6_bitCount_0f7a4_18 ?_
  refine lv_iand hx hb dJ6_bitCount_0f7a4_21 ?_
  refine lv_iadd hx hb dJ6_bitCount_0f7a4_22 ?_
  obtain ⟨t2, et2, hf⟩ := x_lt hf
  refine x_nmi et2 ?_
  refine lv_istore_n (lv' := [(0, _)]) hx hb dJ6_bitCount_0f7a4_23 rfl hl (Nat.le_of_ble_eq_true rfl) rfl (fun ls hl => ?_)
  refine lv_iload_n hx hb dJ6_bitCount_0f7a4_24 rfl (lv_at hl 0 rfl) ?_
  refine lv_iload_n hx hb dJ6_bitCount_0f7a4_25 rfl (lv_at hl 0 rfl) ?_
  refine lv_iconst (v := 4) hx hb dJ6_bitCount_0f7a4_26 rfl ?_
  refine lv_iushr hx hb dJ6_bitCount_0f7a4_27 rfl ?_
  refine lv_iadd hx hb dJ6_bitCount_0f7a4_28 ?_
  refine lv_ldcw hx hb C.2.2.2.1 (C.2.2.2.2.1 _ tw_1377) dJ6_bitCount_0f7a4_29 ?_
  refine lv_iand hx hb dJ6_bitCount_0f7a4_32 ?_
  obtain ⟨t3, et3, hf⟩ := x_lt hf
  refine x_nmi et3 ?_
  refine lv_istore_n (lv' := [(0, _)]) hx hb dJ6_bitCount_0f7a4_33 rfl hl (Nat.le_of_ble_eq_true rfl) rfl (fun ls hl => ?_)
  refine lv_iload_n hx hb dJ6_bitCount_0f7a4_34 rfl (lv_at hl 0 rfl) ?_
  refine lv_iload_n hx hb dJ6_bitCount_0f7a4_35 rfl (lv_at hl 0 rfl) ?_
  refine lv_bipush (v := 8) hx hb dJ6_bitCount_0f7a4_36 rfl ?_
  refine lv_iushr hx hb dJ6_bitCount_0f7a4_38 rfl ?_
  refine lv_iadd hx hb dJ6_bitCount_0f7a4_39 ?_
  refine lv_istore_n (lv' := [(0, _)]) hx hb dJ6_bitCount_0f7a4_40 rfl hl (Nat.le_of_ble_eq_true rfl) rfl (fun ls hl => ?_)
  refine lv_iload_n hx hb dJ6_bitCount_0f7a4_41 rfl (lv_at hl 0 rfl) ?_
  refine lv_iload_n hx hb dJ6_bitCount_0f7a4_42 rfl (lv_at hl 0 rfl) ?_
  refine lv_bipush (v := 16) hx hb dJ6_bitCount_0f7a4_43 rfl ?_
  refine lv_iushr hx hb dJ6_bitCount_0f7a4_45 rfl ?_
  refine lv_iadd hx hb dJ6_bitCount_0f7a4_46 ?_
  obtain ⟨t4, et4, hf⟩ := x_lt hf
  refine x_nmi et4 ?_
  refine lv_istore_n (lv' := [(0, _)]) hx hb dJ6_bitCount_0f7a4_47 rfl hl (Nat.le_of_ble_eq_true rfl) rfl (fun ls hl => ?_)
  refine lv_iload_n hx hb dJ6_bitCount_0f7a4_48 rfl (lv_at hl 0 rfl) ?_
  refine lv_bipush (v := 63) hx hb dJ6_bitCount_0f7a4_49 rfl ?_
  refine lv_iand hx hb dJ6_bitCount_0f7a4_51 ?_
  cases hf
  exact x_iret C hR hS dJ6_bitCount_0f7a4_52
def f_J9_floorDiv_7cf53_21 (h : XH) (v2 : Int32) : Option Int32 := some v2
def f_J9_floorDiv_7cf53 (h : XH) (v0 : Int32) (v1 : Int32) : Option Int32 := if v1 = 0 then none else if 0 ≤ (v0 ^^^ v1) then f_J9_floorDiv_7cf53_21 h (v0 / v1) else if ((v0 / v1) * v1) = v0 then f_J9_floorDiv_7cf53_21 h (v0 / v1) else some ((v0 / v1) - 1)
set_option maxRecDepth 20000 in
theorem B_J9_floorDiv_7cf53_21 {p : Program} {l : Launch} {e : Env} {s : State} {m : MethodId} {args : Array Value} {below : List Frame} {meth : Method} {c : Code} {O : XO} {K : XK} {h : XH} {r : Int32}   (C : x_C p s m args meth c O cJ9_floorDiv_7cf53 3 RJ9 (some .int))   (ls : Array Slot) (H : Heap) (locs : List Loc) (v2 : Int32) (hl : lv_has ls 3 [(2, .int v2)]) (hR : x_R O K h H) (hS : va_S (oA O) s.heap H locs) (hf : f_J9_floorDiv_7cf53_21 h v2 = some r) : W p l e (x_rm 0 0) s m args below meth c H locs 0 0 (MQ below (x_Qc O K h (some (.int r))) args s 0 0 (oA O)) (F0 m 21 ls []) := by
  have hx := C.1
  have hb := C.2.1
  rw [f_J9_floorDiv_7cf53_21] at hf
  refine lv_iload_n hx hb dJ9_floorDiv_7cf53_21 rfl (lv_at hl 0 rfl) ?_
  cases hf
  exact x_iret C hR hS dJ9_floorDiv_7cf53_22
set_option maxRecDepth 20000 in
theorem S_J9_floorDiv_7cf53 {l : Launch} {O : XO} {K : XK} {h : XH} {v0 : Int32} {v1 : Int32}  {r : Int32}  (hf : f_J9_floorDiv_7cf53 h v0 v1 = some r) : x_M l O K yJ9_floorDiv_7cf53 cJ9_floorDiv_7cf53 3 (some .int) 0 0 h [.int v0, .int v1] (some (.int r)) h := by
  refine x_enterF (by decide +kernel) (Nat.le_of_ble_eq_true rfl) (fun p e s m args below meth c C hR ls hl => ?_)
  have hS : va_S (oA O) s.heap s.heap [] := va_S.rf
  have hx := C.1
  have hb := C.2.1
  have hl : lv_has ls 3 [(0, .int v0), (1, .int v1)] := hl
  rw [f_J9_floorDiv_7cf53] at hf
  refine lv_iload_n hx hb dJ9_floorDiv_7cf53_0 rfl (lv_at hl 0 rfl) ?_
  refine lv_iload_n hx hb dJ9_floorDiv_7cf53_1 rfl (lv_at hl 1 rfl) ?_
  obtain ⟨g1, hf⟩ := x_gn hf
  refine lv_idiv hx hb dJ9_floorDiv_7cf53_2 g1 ?_
  refine lv_istore_n (lv' := [(2, _), (0, _), (1, _)]) hx hb dJ9_floorDiv_7cf53_3 rfl hl (Nat.le_of_ble_eq_true rfl) rfl (fun ls hl => ?_)
  refine lv_iload_n hx hb dJ9_floorDiv_7cf53_4 rfl (lv_at hl 1 rfl) ?_
  refine lv_iload_n hx hb dJ9_floorDiv_7cf53_5 rfl (lv_at hl 2 rfl) ?_
  refine lv_ixor hx hb dJ9_floorDiv_7cf53_6 ?_
  refine lv_if_ge (tgt := 21) hx hb dJ9_floorDiv_7cf53_7 rfl (fun hc => ?_) (fun hc => ?_)
  · have hf := x_ip hc hf
    exact B_J9_floorDiv_7cf53_21  C   ls _ _ _  (lv_sub hl [0] rfl) hR hS hf
  · have hf := x_in hc hf
    refine lv_iload_n hx hb dJ9_floorDiv_7cf53_10 rfl (lv_at hl 0 rfl) ?_
    refine lv_iload_n hx hb dJ9_floorDiv_7cf53_11 rfl (lv_at hl 2 rfl) ?_
    refine lv_imul hx hb dJ9_floorDiv_7cf53_12 ?_
    refine lv_iload_n hx hb dJ9_floorDiv_7cf53_13 rfl (lv_at hl 1 rfl) ?_
    refine lv_icmp_eq (tgt := 21) hx hb dJ9_floorDiv_7cf53_14 rfl (fun hc => ?_) (fun hc => ?_)
    · have hf := x_ip hc hf
      exact B_J9_floorDiv_7cf53_21  C   ls _ _ _  (lv_sub hl [0] rfl) hR hS hf
    · have hf := x_in hc hf
      refine lv_iload_n hx hb dJ9_floorDiv_7cf53_17 rfl (lv_at hl 0 rfl) ?_
      refine lv_iconst (v := 1) hx hb dJ9_floorDiv_7cf53_18 rfl ?_
      refine lv_isub hx hb dJ9_floorDiv_7cf53_19 ?_
      cases hf
      exact x_iret C hR hS dJ9_floorDiv_7cf53_20
def f_J9_abs_0f7a4 (h : XH) (v0 : Int32) : Int32 := (if 0 ≤ v0 then v0 else (-v0))
set_option maxRecDepth 20000 in
theorem S_J9_abs_0f7a4 {l : Launch} {O : XO} {K : XK} {h : XH} {v0 : Int32}  {r : Int32}  (hf : f_J9_abs_0f7a4 h v0 = r) : x_M l O K yJ9_abs_0f7a4 cJ9_abs_0f7a4 1 (some .int) 0 0 h [.int v0] (some (.int r)) h := by
  refine x_enterF (by decide +kernel) (Nat.le_of_ble_eq_true rfl) (fun p e s m args below meth c C hR ls hl => ?_)
  have hS : va_S (oA O) s.heap s.heap [] := va_S.rf
  have hx := C.1
  have hb := C.2.1
  have hl : lv_has ls 1 [(0, .int v0)] := hl
  rw [f_J9_abs_0f7a4] at hf
  refine lv_iload_n hx hb dJ9_abs_0f7a4_0 rfl (lv_at hl 0 rfl) ?_
  have kM1 : ∀ (ls : Array Slot) (H : Heap) (locs : List Loc), lv_has ls 1 [] → x_R O K h H → va_S (oA O) s.heap H locs → W p l e (x_rm 0 0) s m args below meth c H locs 0 0 (MQ below (x_Qc O K h (some (.int r))) args s 0 0 (oA O)) (F0 m 10 ls [.int (if 0 ≤ v0 then v0 else (-v0))]) := by
    intro ls H locs hl hR hS
    cases hf
    exact x_iret C hR hS dJ9_abs_0f7a4_10
  refine lv_if_ge (tgt := 9) hx hb dJ9_abs_0f7a4_1 rfl (fun hc => ?_) (fun hc => ?_)
  · try simp only [if_pos hc] at kM1
    refine lv_iload_n hx hb dJ9_abs_0f7a4_9 rfl (lv_at hl 0 rfl) ?_
    exact kM1 ls _ _ (lv_sub hl [] rfl) hR hS
  · try simp only [if_neg hc] at kM1
    refine lv_iload_n hx hb dJ9_abs_0f7a4_4 rfl (lv_at hl 0 rfl) ?_
    refine lv_ineg hx hb dJ9_abs_0f7a4_5 ?_
    refine lv_goto (tgt := 10) hx hb dJ9_abs_0f7a4_6 rfl ?_
    exact kM1 ls _ _ (lv_sub hl [] rfl) hR hS
def f_J9_max_7cf53 (h : XH) (v0 : Int32) (v1 : Int32) : Int32 := (if v0 < v1 then v1 else v0)
set_option maxRecDepth 20000 in
theorem S_J9_max_7cf53 {l : Launch} {O : XO} {K : XK} {h : XH} {v0 : Int32} {v1 : Int32}  {r : Int32}  (hf : f_J9_max_7cf53 h v0 v1 = r) : x_M l O K yJ9_max_7cf53 cJ9_max_7cf53 2 (some .int) 0 0 h [.int v0, .int v1] (some (.int r)) h := by
  refine x_enterF (by decide +kernel) (Nat.le_of_ble_eq_true rfl) (fun p e s m args below meth c C hR ls hl => ?_)
  have hS : va_S (oA O) s.heap s.heap [] := va_S.rf
  have hx := C.1
  have hb := C.2.1
  have hl : lv_has ls 2 [(0, .int v0), (1, .int v1)] := hl
  rw [f_J9_max_7cf53] at hf
  refine lv_iload_n hx hb dJ9_max_7cf53_0 rfl (lv_at hl 0 rfl) ?_
  refine lv_iload_n hx hb dJ9_max_7cf53_1 rfl (lv_at hl 1 rfl) ?_
  have kM1 : ∀ (ls : Array Slot) (H : Heap) (locs : List Loc), lv_has ls 2 [] → x_R O K h H → va_S (oA O) s.heap H locs → W p l e (x_rm 0 0) s m args below meth c H locs 0 0 (MQ below (x_Qc O K h (some (.int r))) args s 0 0 (oA O)) (F0 m 10 ls [.int (if v0 < v1 then v1 else v0)]) := by
    intro ls H locs hl hR hS
    cases hf
    exact x_iret C hR hS dJ9_max_7cf53_10
  refine lv_icmp_lt (tgt := 9) hx hb dJ9_max_7cf53_2 rfl (fun hc => ?_) (fun hc => ?_)
  · try simp only [if_pos hc] at kM1
    refine lv_iload_n hx hb dJ9_max_7cf53_9 rfl (lv_at hl 1 rfl) ?_
    exact kM1 ls _ _ (lv_sub hl [] rfl) hR hS
  · try simp only [if_neg hc] at kM1
    refine lv_iload_n hx hb dJ9_max_7cf53_5 rfl (lv_at hl 0 rfl) ?_
    refine lv_goto (tgt := 10) hx hb dJ9_max_7cf53_6 rfl ?_
    exact kM1 ls _ _ (lv_sub hl [] rfl) hR hS
def f_J9_min_7cf53 (h : XH) (v0 : Int32) (v1 : Int32) : Int32 := (if v1 < v0 then v1 else v0)
set_option maxRecDepth 20000 in
theorem S_J9_min_7cf53 {l : Launch} {O : XO} {K : XK} {h : XH} {v0 : Int32} {v1 : Int32}  {r : Int32}  (hf : f_J9_min_7cf53 h v0 v1 = r) : x_M l O K yJ9_min_7cf53 cJ9_min_7cf53 2 (some .int) 0 0 h [.int v0, .int v1] (some (.int r)) h := by
  refine x_enterF (by decide +kernel) (Nat.le_of_ble_eq_true rfl) (fun p e s m args below meth c C hR ls hl => ?_)
  have hS : va_S (oA O) s.heap s.heap [] := va_S.rf
  have hx := C.1
  have hb := C.2.1
  have hl : lv_has ls 2 [(0, .int v0), (1, .int v1)] := hl
  rw [f_J9_min_7cf53] at hf
  refine lv_iload_n hx hb dJ9_min_7cf53_0 rfl (lv_at hl 0 rfl) ?_
  refine lv_iload_n hx hb dJ9_min_7cf53_1 rfl (lv_at hl 1 rfl) ?_
  have kM1 : ∀ (ls : Array Slot) (H : Heap) (locs : List Loc), lv_has ls 2 [] → x_R O K h H → va_S (oA O) s.heap H locs → W p l e (x_rm 0 0) s m args below meth c H locs 0 0 (MQ below (x_Qc O K h (some (.int r))) args s 0 0 (oA O)) (F0 m 10 ls [.int (if v1 < v0 then v1 else v0)]) := by
    intro ls H locs hl hR hS
    cases hf
    exact x_iret C hR hS dJ9_min_7cf53_10
  refine lv_icmp_gt (tgt := 9) hx hb dJ9_min_7cf53_2 rfl (fun hc => ?_) (fun hc => ?_)
  · try simp only [if_pos hc] at kM1
    refine lv_iload_n hx hb dJ9_min_7cf53_9 rfl (lv_at hl 1 rfl) ?_
    exact kM1 ls _ _ (lv_sub hl [] rfl) hR hS
  · try simp only [if_neg hc] at kM1
    refine lv_iload_n hx hb dJ9_min_7cf53_5 rfl (lv_at hl 0 rfl) ?_
    refine lv_goto (tgt := 10) hx hb dJ9_min_7cf53_6 rfl ?_
    exact kM1 ls _ _ (lv_sub hl [] rfl) hR hS
def f_J7_fill_53178_5 (K : XK) : Nat → XH → Nat → Int32 → Int32 → Int32 → Option (XH)
  | 0, _, _, _, _, _ => none
  | n + 1, h, v0, v1, v2, v3 => if v3 ≤ v2 then some h else if x_b v2 (K v0).2 = true then x_let (x_i h v0 v2.toNatClampNeg v1) (fun h2 => f_J7_fill_53178_5 K n h2 v0 v1 (v2 + 1) v3) else none
def f_J7_fill_53178 (K : XK) (h : XH) (v0 : Nat) (v1 : Int32) : Option (XH) := f_J7_fill_53178_5 K x_FU h v0 v1 0 (nI (K v0).2)
set_option maxRecDepth 20000 in
theorem B_J7_fill_53178_5 {p : Program} {l : Launch} {e : Env} {s : State} {m : MethodId} {args : Array Value} {below : List Frame} {meth : Method} {c : Code} {O : XO} {K : XK} {h' : XH}   (C : x_C p s m args meth c O cJ7_fill_53178 4 RJ7 none)   : ∀ (n : Nat) (ls : Array Slot) (H : Heap) (locs : List Loc) (h : XH) (v0 : Nat) (v1 : Int32) (v2 : Int32) (v3 : Int32) (kv0 : (K v0).1 = 14) (hl : lv_has ls 4 [(0, .ref v0), (1, .int v1), (2, .int v2), (3, .int v3)]) (hR : x_R O K h H) (hS : va_S (oA O) s.heap H locs) (hf : f_J7_fill_53178_5 K n h v0 v1 v2 v3 = some h'), W p l e (x_rm 0 0) s m args below meth c H locs 0 0 (MQ below (x_Qc O K h' none) args s 0 0 (oA O)) (F0 m 5 ls []) := by
  have hx := C.1
  have hb := C.2.1
  intro n
  induction n with
  | zero =>
    intro ls H locs h v0 v1 v2 v3 kv0 hl hR hS hf
    rw [f_J7_fill_53178_5] at hf
    cases hf
  | succ n ih =>
    intro ls H locs h v0 v1 v2 v3 kv0 hl hR hS hf
    rw [f_J7_fill_53178_5] at hf
    refine lv_iload_n hx hb dJ7_fill_53178_5 rfl (lv_at hl 2 rfl) ?_
    refine lv_iload_n hx hb dJ7_fill_53178_6 rfl (lv_at hl 3 rfl) ?_
    refine lv_icmp_ge (tgt := 20) hx hb dJ7_fill_53178_7 rfl (fun hc => ?_) (fun hc => ?_)
    · have hf := x_ip hc hf
      cases hf
      exact x_vret C hR hS dJ7_fill_53178_20
    · have hf := x_in hc hf
      refine lv_aload_n hx hb dJ7_fill_53178_10 rfl (lv_at hl 0 rfl) ?_
      refine lv_iload_n hx hb dJ7_fill_53178_11 rfl (lv_at hl 2 rfl) ?_
      refine lv_iload_n hx hb dJ7_fill_53178_12 rfl (lv_at hl 1 rfl) ?_
      obtain ⟨g1, hf⟩ := x_gd hf
      obtain ⟨h2, eh2, hf⟩ := x_lt hf
      refine x_iast C hR hS kv0 g1 dJ7_fill_53178_13 (fun H locs hR hS => ?_)
      rw [← eh2] at hR
      refine lv_iinc (k := 2) (v := _ + 1) (lv' := [(2, _), (0, _), (1, _), (3, _)]) hx hb dJ7_fill_53178_14 hl rfl (x_inc 1 1 rfl _) (Nat.le_of_ble_eq_true rfl) rfl (fun ls hl => ?_)
      refine lv_goto (tgt := 5) hx hb dJ7_fill_53178_17 rfl ?_
      exact ih ls _ _ h2 _ _ _ _ kv0 (lv_sub hl [1, 2, 0, 3] rfl) hR hS hf
set_option maxRecDepth 20000 in
theorem S_J7_fill_53178 {l : Launch} {O : XO} {K : XK} {h : XH} {v0 : Nat} {v1 : Int32}  {h' : XH} (k0 : (K v0).1 = 14) (hf : f_J7_fill_53178 K h v0 v1 = some h') : x_M l O K yJ7_fill_53178 cJ7_fill_53178 4 none 0 0 h [.ref v0, .int v1] none h' := by
  refine x_enter (by decide) (Nat.le_of_ble_eq_true rfl) (fun p e s m args below meth c C hR ls hl => ?_)
  have hS : va_S (oA O) s.heap s.heap [] := va_S.rf
  have hx := C.1
  have hb := C.2.1
  have hl : lv_has ls 4 [(0, .ref v0), (1, .int v1)] := hl
  rw [f_J7_fill_53178] at hf
  refine lv_iconst (v := 0) hx hb dJ7_fill_53178_0 rfl ?_
  refine lv_istore_n (lv' := [(2, _), (0, _), (1, _)]) hx hb dJ7_fill_53178_1 rfl hl (Nat.le_of_ble_eq_true rfl) rfl (fun ls hl => ?_)
  refine lv_aload_n hx hb dJ7_fill_53178_2 rfl (lv_at hl 1 rfl) ?_
  refine x_alen C hR k0 dJ7_fill_53178_3 ?_
  refine lv_istore_n (lv' := [(3, _), (2, _), (0, _), (1, _)]) hx hb dJ7_fill_53178_4 rfl hl (Nat.le_of_ble_eq_true rfl) rfl (fun ls hl => ?_)
  exact B_J7_fill_53178_5  C  x_FU ls _ _ h _ _ _ _ k0 (lv_sub hl [2, 3, 1, 0] rfl) hR hS hf
def f_X0_countMissed_106 (k18 : XH → Int32 → Option (XH)) (K : XK) (x : Nat) (h : XH) (v1 : Int32) : Option (XH) := k18 h (v1 + 1)
def f_X0_countMissed_41 (k18 : XH → Int32 → Option (XH)) (K : XK) (x : Nat) : Nat → XH → Int32 → Nat → Int32 → Option (XH)
  | 0, _, _, _, _ => none
  | n + 1, h, v1, v2, v3 => if (h.1 v2 2) ≤ v3 then f_X0_countMissed_106 k18 K x h v1 else if (h.1 v2 3) = 0 then f_X0_countMissed_106 k18 K x h v1 else if x_b (f_X2_cardAt v2 h v3) 52 = true then if x_b (f_X2_cardAt v2 h v3) 52 = true then x_let (x_i h (x + 60) (f_X2_cardAt v2 h v3).toNatClampNeg ((h.1 (x + 60) (f_X2_cardAt v2 h v3).toNatClampNeg) + 1)) (fun h6 => if x_b (f_X2_cardAt v2 h v3) 52 = true then if x_b v3 52 = true then if x_b (f_X2_cardAt v2 h v3) 52 = true then x_let (x_i h6 (x + 61) (f_X2_cardAt v2 h v3).toNatClampNeg ((h6.1 (x + 61) (f_X2_cardAt v2 h v3).toNatClampNeg) + (if (h6.1 (v2 + 2) v3.toNatClampNeg) = (f_X2_cardAt v2 h v3) then 0 else 1))) (fun h11 => f_X0_countMissed_41 k18 K x n h11 v1 v2 (v3 + 1)) else none else none else none) else none else none
def f_X0_countMissed_18 (K : XK) (x : Nat) : Nat → XH → Int32 → Option (XH)
  | 0, _, _ => none
  | n + 1, h, v1 => if (h.1 (x + 9) 4) ≤ v1 then some h else if x_b v1 8 = true then f_X0_countMissed_41 (f_X0_countMissed_18 K x n) K x x_FU h v1 ((x + 13) + 6 + 3 * v1.toNatClampNeg) 0 else none
def f_X0_countMissed (K : XK) (x : Nat) (h : XH) : Option (XH) := Option.bind (f_J7_fill_53178 K h (x + 60) 0) (fun h1 => Option.bind (f_J7_fill_53178 K h1 (x + 61) 0) (fun h2 => f_X0_countMissed_18 K x x_FU h2 0))
set_option maxRecDepth 20000 in
theorem B_X0_countMissed_106 {p : Program} {l : Launch} {e : Env} {s : State} {m : MethodId} {args : Array Value} {below : List Frame} {meth : Method} {c : Code} {O : XO} {K : XK} {h' : XH}  {k18 : XH → Int32 → Option (XH)} (C : x_C p s m args meth c O cX0_countMissed 5 RX0 none) (hk18 : ∀ (ls : Array Slot) (H : Heap) (locs : List Loc) (h : XH) (v1 : Int32), lv_has ls 5 [(0, .ref (oX O + 59)), (1, .int v1)] → x_R O K h H → va_S (oA O) s.heap H locs → k18 h v1 = some h' → W p l e (x_rm 1 23) s m args below meth c H locs 0 0 (MQ below (x_Qc O K h' none) args s 0 0 (oA O)) (F0 m 18 ls []))  (ls : Array Slot) (H : Heap) (locs : List Loc) (h : XH) (v1 : Int32) (hl : lv_has ls 5 [(0, .ref (oX O + 59)), (1, .int v1)]) (hR : x_R O K h H) (hS : va_S (oA O) s.heap H locs) (hf : f_X0_countMissed_106 k18 K (oX O) h v1 = some h') : W p l e (x_rm 1 23) s m args below meth c H locs 0 0 (MQ below (x_Qc O K h' none) args s 0 0 (oA O)) (F0 m 106 ls []) := by
  have hx := C.1
  have hb := C.2.1
  rw [f_X0_countMissed_106] at hf
  refine lv_iinc (k := 1) (v := _ + 1) (lv' := [(1, _), (0, _)]) hx hb dX0_countMissed_106 hl rfl (x_inc 1 1 rfl _) (Nat.le_of_ble_eq_true rfl) rfl (fun ls hl => ?_)
  refine lv_goto (tgt := 18) hx hb dX0_countMissed_109 rfl ?_
  exact hk18 ls _ _ h _  (lv_sub hl [1, 0] rfl) hR hS hf
set_option maxRecDepth 20000 in
theorem B_X0_countMissed_41 {p : Program} {l : Launch} {e : Env} {s : State} {m : MethodId} {args : Array Value} {below : List Frame} {meth : Method} {c : Code} {O : XO} {K : XK} {h' : XH}  {k18 : XH → Int32 → Option (XH)} (C : x_C p s m args meth c O cX0_countMissed 5 RX0 none) (hk18 : ∀ (ls : Array Slot) (H : Heap) (locs : List Loc) (h : XH) (v1 : Int32), lv_has ls 5 [(0, .ref (oX O + 59)), (1, .int v1)] → x_R O K h H → va_S (oA O) s.heap H locs → k18 h v1 = some h' → W p l e (x_rm 1 23) s m args below meth c H locs 0 0 (MQ below (x_Qc O K h' none) args s 0 0 (oA O)) (F0 m 18 ls []))  : ∀ (n : Nat) (ls : Array Slot) (H : Heap) (locs : List Loc) (h : XH) (v1 : Int32) (v2 : Nat) (v3 : Int32) (kv2 : K v2 = (3, 0)) (hl : lv_has ls 5 [(0, .ref (oX O + 59)), (1, .int v1), (2, .ref v2), (3, .int v3)]) (hR : x_R O K h H) (hS : va_S (oA O) s.heap H locs) (hf : f_X0_countMissed_41 k18 K (oX O) n h v1 v2 v3 = some h'), W p l e (x_rm 1 23) s m args below meth c H locs 0 0 (MQ below (x_Qc O K h' none) args s 0 0 (oA O)) (F0 m 41 ls []) := by
  have hx := C.1
  have hb := C.2.1
  intro n
  induction n with
  | zero =>
    intro ls H locs h v1 v2 v3 kv2 hl hR hS hf
    rw [f_X0_countMissed_41] at hf
    cases hf
  | succ n ih =>
    intro ls H locs h v1 v2 v3 kv2 hl hR hS hf
    rw [f_X0_countMissed_41] at hf
    refine lv_iload_n hx hb dX0_countMissed_41 rfl (lv_at hl 3 rfl) ?_
    refine lv_aload_n hx hb dX0_countMissed_42 rfl (lv_at hl 2 rfl) ?_
    refine gf_2_2 C hR kv2 tw_254 dX0_countMissed_43 ?_
    refine lv_icmp_ge (tgt := 106) hx hb dX0_countMissed_46 rfl (fun hc => ?_) (fun hc => ?_)
    · have hf := x_ip hc hf
      exact B_X0_countMissed_106  C hk18  ls _ _ h _  (lv_sub hl [0, 1] rfl) hR hS hf
    · have hf := x_in hc hf
      refine lv_aload_n hx hb dX0_countMissed_49 rfl (lv_at hl 2 rfl) ?_
      refine gf_2_3 C hR kv2 tw_258 dX0_countMissed_50 ?_
      refine lv_if_eq (tgt := 106) hx hb dX0_countMissed_53 rfl (fun hc => ?_) (fun hc => ?_)
      · have hf := x_ip hc hf
        exact B_X0_countMissed_106  C hk18  ls _ _ h _  (lv_sub hl [0, 1] rfl) hR hS hf
      · have hf := x_in hc hf
        refine lv_aload_n hx hb dX0_countMissed_56 rfl (lv_at hl 2 rfl) ?_
        refine lv_iload_n hx hb dX0_countMissed_57 rfl (lv_at hl 3 rfl) ?_
        refine x_cVi1 C hR hS (S_X2_cardAt kv2 rfl) kv2 (by decide) rfl mf_X2_cardAt tw_574 (Nat.le_of_ble_eq_true rfl) (Nat.le_of_ble_eq_true rfl) hl.1 (Nat.le_of_ble_eq_true rfl) dX0_countMissed_58 ⟨Nat.le_refl _, Nat.le_refl _⟩ (fun H locs hR hS => ?_)
        refine lv_istore (lv' := [(4, _), (0, _), (1, _), (2, _), (3, _)]) hx hb dX0_countMissed_61 hl (Nat.le_of_ble_eq_true rfl) rfl (fun ls hl => ?_)
        refine lv_aload_n hx hb dX0_countMissed_63 rfl (lv_at hl 1 rfl) ?_
        refine gf_0_2 C hR (x_k hR 59 rfl) tw_478 dX0_countMissed_64 ?_
        refine lv_iload hx hb dX0_countMissed_67 (lv_at hl 0 rfl) ?_
        refine lv_dup2_11 hx hb dX0_countMissed_69 rfl rfl ?_
        obtain ⟨g4, hf⟩ := x_gd hf
        refine x_iald C hR (x_k1 (x_k hR 60 rfl)) (x_k2 (x_k hR 60 rfl) g4) dX0_countMissed_70 ?_
        refine lv_iconst (v := 1) hx hb dX0_countMissed_71 rfl ?_
        refine lv_iadd hx hb dX0_countMissed_72 ?_
        obtain ⟨g5, hf⟩ := x_gd hf
        obtain ⟨h6, eh6, hf⟩ := x_lt hf
        refine x_iast C hR hS (x_k1 (x_k hR 60 rfl)) (x_k2 (x_k hR 60 rfl) g5) dX0_countMissed_73 (fun H locs hR hS => ?_)
        rw [← eh6] at hR
        refine lv_aload_n hx hb dX0_countMissed_74 rfl (lv_at hl 1 rfl) ?_
        refine gf_0_3 C hR (x_k hR 59 rfl) tw_479 dX0_countMissed_75 ?_
        refine lv_iload hx hb dX0_countMissed_78 (lv_at hl 0 rfl) ?_
        refine lv_dup2_11 hx hb dX0_countMissed_80 rfl rfl ?_
        obtain ⟨g7, hf⟩ := x_gd hf
        refine x_iald C hR (x_k1 (x_k hR 61 rfl)) (x_k2 (x_k hR 61 rfl) g7) dX0_countMissed_81 ?_
        refine lv_aload_n hx hb dX0_countMissed_82 rfl (lv_at hl 3 rfl) ?_
        refine gf_2_5 C hR kv2 tw_270 dX0_countMissed_83 ?_
        refine lv_iload_n hx hb dX0_countMissed_86 rfl (lv_at hl 4 rfl) ?_
        obtain ⟨g8, hf⟩ := x_gd hf
        refine x_iald C hR (x_k1 (kf_2_2 hR kv2)) (x_k2 (kf_2_2 hR kv2) g8) dX0_countMissed_87 ?_
        refine lv_iload hx hb dX0_countMissed_88 (lv_at hl 0 rfl) ?_
        have kM9 : ∀ (ls : Array Slot) (H : Heap) (locs : List Loc), lv_has ls 5 [(0, .ref (oX O + 59)), (1, .int v1), (2, .ref v2), (3, .int v3)] → x_R O K h6 H → va_S (oA O) s.heap H locs → W p l e (x_rm 1 23) s m args below meth c H locs 0 0 (MQ below (x_Qc O K h' none) args s 0 0 (oA O)) (F0 m 98 ls [.int (if (h6.1 (v2 + 2) v3.toNatClampNeg) = (f_X2_cardAt v2 h v3) then 0 else 1), .int (h6.1 (oX O + 61) (f_X2_cardAt v2 h v3).toNatClampNeg), .int (f_X2_cardAt v2 h v3), .ref (oX O + 61)]) := by
          intro ls H locs hl hR hS
          refine lv_iadd hx hb dX0_countMissed_98 ?_
          obtain ⟨g10, hf⟩ := x_gd hf
          obtain ⟨h11, eh11, hf⟩ := x_lt hf
          refine x_iast C hR hS (x_k1 (x_k hR 61 rfl)) (x_k2 (x_k hR 61 rfl) g10) dX0_countMissed_99 (fun H locs hR hS => ?_)
          rw [← eh11] at hR
          refine lv_iinc (k := 3) (v := _ + 1) (lv' := [(3, _), (0, _), (1, _), (2, _)]) hx hb dX0_countMissed_100 hl rfl (x_inc 1 1 rfl _) (Nat.le_of_ble_eq_true rfl) rfl (fun ls hl => ?_)
          refine lv_goto (tgt := 41) hx hb dX0_countMissed_103 rfl ?_
          exact ih ls _ _ h11 _ _ _ kv2 (lv_sub hl [1, 2, 3, 0] rfl) hR hS hf
        refine lv_icmp_ne (tgt := 97) hx hb dX0_countMissed_90 rfl (fun hc => ?_) (fun hc => ?_)
        · try simp only [if_neg hc] at kM9
          refine lv_iconst (v := 1) hx hb dX0_countMissed_97 rfl ?_
          exact kM9 ls _ _ (lv_sub hl [1, 2, 3, 4] rfl) hR hS
        · try simp only [if_pos hc] at kM9
          refine lv_iconst (v := 0) hx hb dX0_countMissed_93 rfl ?_
          refine lv_goto (tgt := 98) hx hb dX0_countMissed_94 rfl ?_
          exact kM9 ls _ _ (lv_sub hl [1, 2, 3, 4] rfl) hR hS
set_option maxRecDepth 20000 in
theorem B_X0_countMissed_18 {p : Program} {l : Launch} {e : Env} {s : State} {m : MethodId} {args : Array Value} {below : List Frame} {meth : Method} {c : Code} {O : XO} {K : XK} {h' : XH}   (C : x_C p s m args meth c O cX0_countMissed 5 RX0 none)   : ∀ (n : Nat) (ls : Array Slot) (H : Heap) (locs : List Loc) (h : XH) (v1 : Int32) (hl : lv_has ls 5 [(0, .ref (oX O + 59)), (1, .int v1)]) (hR : x_R O K h H) (hS : va_S (oA O) s.heap H locs) (hf : f_X0_countMissed_18 K (oX O) n h v1 = some h'), W p l e (x_rm 1 23) s m args below meth c H locs 0 0 (MQ below (x_Qc O K h' none) args s 0 0 (oA O)) (F0 m 18 ls []) := by
  have hx := C.1
  have hb := C.2.1
  intro n
  induction n with
  | zero =>
    intro ls H locs h v1 hl hR hS hf
    rw [f_X0_countMissed_18] at hf
    cases hf
  | succ n ih =>
    intro ls H locs h v1 hl hR hS hf
    rw [f_X0_countMissed_18] at hf
    refine lv_iload_n hx hb dX0_countMissed_18 rfl (lv_at hl 1 rfl) ?_
    refine lv_aload_n hx hb dX0_countMissed_19 rfl (lv_at hl 0 rfl) ?_
    refine gf_0_0 C hR (x_k hR 59 rfl) tw_476 dX0_countMissed_20 ?_
    refine gf_7_4 C hR (x_k hR 9 rfl) tw_297 dX0_countMissed_23 ?_
    refine lv_icmp_ge (tgt := 112) hx hb dX0_countMissed_26 rfl (fun hc => ?_) (fun hc => ?_)
    · have hf := x_ip hc hf
      cases hf
      exact x_vret C hR hS dX0_countMissed_112
    · have hf := x_in hc hf
      refine lv_aload_n hx hb dX0_countMissed_29 rfl (lv_at hl 0 rfl) ?_
      refine gf_0_0 C hR (x_k hR 59 rfl) tw_476 dX0_countMissed_30 ?_
      refine gf_7_5 C hR (x_k hR 9 rfl) tw_304 dX0_countMissed_33 ?_
      refine lv_iload_n hx hb dX0_countMissed_36 rfl (lv_at hl 1 rfl) ?_
      obtain ⟨g3, hf⟩ := x_gd hf
      refine x_paald C hR (x_k1 (x_k hR 13 rfl)) (x_k2 (x_k hR 13 rfl) g3) dX0_countMissed_37 ?_
      refine lv_astore_n (lv' := [(2, _), (0, _), (1, _)]) hx hb dX0_countMissed_38 rfl hl (Nat.le_of_ble_eq_true rfl) rfl (fun ls hl => ?_)
      refine lv_iconst (v := 0) hx hb dX0_countMissed_39 rfl ?_
      refine lv_istore_n (lv' := [(3, _), (2, _), (0, _), (1, _)]) hx hb dX0_countMissed_40 rfl hl (Nat.le_of_ble_eq_true rfl) rfl (fun ls hl => ?_)
      exact B_X0_countMissed_41  C ih x_FU ls _ _ h _ _ _ (x_kP hR (x_k hR 13 rfl) g3) (lv_sub hl [2, 3, 1, 0] rfl) hR hS hf
set_option maxRecDepth 20000 in
theorem S_X0_countMissed {l : Launch} {O : XO} {K : XK} {h : XH}  {h' : XH}  (hf : f_X0_countMissed K (oX O) h = some h') : x_M l O K yX0_countMissed cX0_countMissed 5 none 1 23 h [.ref (oX O + 59)] none h' := by
  refine x_enter (by decide) (Nat.le_of_ble_eq_true rfl) (fun p e s m args below meth c C hR ls hl => ?_)
  have hS : va_S (oA O) s.heap s.heap [] := va_S.rf
  have hx := C.1
  have hb := C.2.1
  have hl : lv_has ls 5 [(0, .ref (oX O + 59))] := hl
  rw [f_X0_countMissed] at hf
  refine lv_aload_n hx hb dX0_countMissed_0 rfl (lv_at hl 0 rfl) ?_
  refine gf_0_2 C hR (x_k hR 59 rfl) tw_478 dX0_countMissed_1 ?_
  refine lv_iconst (v := 0) hx hb dX0_countMissed_4 rfl ?_
  obtain ⟨h1, eh1, hf⟩ := x_bd hf
  refine x_cSv2 C hR hS (S_J7_fill_53178 (x_k1 (x_k hR 60 rfl)) eh1) mf_J7_fill_53178 tw_571 (Nat.le_of_ble_eq_true rfl) (Nat.le_of_ble_eq_true rfl) hl.1 (Nat.le_of_ble_eq_true rfl) dX0_countMissed_5 ⟨Nat.le_refl _, Nat.le_refl _⟩ (fun H locs hR hS => ?_)
  refine lv_aload_n hx hb dX0_countMissed_8 rfl (lv_at hl 0 rfl) ?_
  refine gf_0_3 C hR (x_k hR 59 rfl) tw_479 dX0_countMissed_9 ?_
  refine lv_iconst (v := 0) hx hb dX0_countMissed_12 rfl ?_
  obtain ⟨h2, eh2, hf⟩ := x_bd hf
  refine x_cSv2 C hR hS (S_J7_fill_53178 (x_k1 (x_k hR 61 rfl)) eh2) mf_J7_fill_53178 tw_571 (Nat.le_of_ble_eq_true rfl) (Nat.le_of_ble_eq_true rfl) hl.1 (Nat.le_of_ble_eq_true rfl) dX0_countMissed_13 ⟨Nat.le_refl _, Nat.le_refl _⟩ (fun H locs hR hS => ?_)
  refine lv_iconst (v := 0) hx hb dX0_countMissed_16 rfl ?_
  refine lv_istore_n (lv' := [(1, _), (0, _)]) hx hb dX0_countMissed_17 rfl hl (Nat.le_of_ble_eq_true rfl) rfl (fun ls hl => ?_)
  exact B_X0_countMissed_18  C  x_FU ls _ _ h2 _  (lv_sub hl [1, 0] rfl) hR hS hf
def f_X1_findOwn_92 (k6 : XH → Nat → Int32 → Int32 → Int32 → Int32 → Option (XH)) (x : Nat) (h : XH) (v1 : Nat) (v2 : Int32) (v3 : Int32) (v4 : Int32) (v5 : Int32) : Option (XH) := k6 h v1 v2 v3 v4 (v5 + 1)
def f_X1_findOwn_82 (k6 : XH → Nat → Int32 → Int32 → Int32 → Int32 → Option (XH)) (k43 : XH → Nat → Int32 → Int32 → Int32 → Int32 → Int32 → Option (XH)) (x : Nat) (h : XH) (v1 : Nat) (v2 : Int32) (v3 : Int32) (v4 : Int32) (v5 : Int32) (v6 : Int32) (s1 : Int32) (s2 : Int32) : Option (XH) := if x_b s1 5 = true then x_let (x_i h (x + 52) s1.toNatClampNeg s2) (fun h7 => k43 h7 v1 v2 v3 v4 v5 (v6 + 1)) else none
def f_X1_findOwn_43 (k6 : XH → Nat → Int32 → Int32 → Int32 → Int32 → Option (XH)) (x : Nat) : Nat → XH → Nat → Int32 → Int32 → Int32 → Int32 → Int32 → Option (XH)
  | 0, _, _, _, _, _, _, _ => none
  | n + 1, h, v1, v2, v3, v4, v5, v6 => if v2 ≤ v6 then f_X1_findOwn_92 k6 x h v1 v2 v3 (v4 + 1) v5 else Option.bind (f_X2_lackAt v1 h v6) (fun v_4 => if v_4 = (f_X2_cardAt v1 h v5) then f_X1_findOwn_82 k6 (f_X1_findOwn_43 k6 x n) x h v1 v2 v3 v4 v5 v6 v4 v6 else if x_b v4 5 = true then f_X1_findOwn_82 k6 (f_X1_findOwn_43 k6 x n) x h v1 v2 v3 v4 v5 v6 v4 (h.1 (x + 52) v4.toNatClampNeg) else none)
def f_X1_findOwn_6 (x : Nat) : Nat → XH → Nat → Int32 → Int32 → Int32 → Int32 → Option (XH)
  | 0, _, _, _, _, _, _ => none
  | n + 1, h, v1, v2, v3, v4, v5 => if (h.1 v1 2) ≤ v5 then some h else if v3 ≤ v4 then some h else if x_b v5 52 = true then if (h.1 (v1 + 2) v5.toNatClampNeg) = (-1) then if x_b v4 5 = true then x_let (x_i h (x + 52) v4.toNatClampNeg (-1)) (fun h3 => f_X1_findOwn_43 (f_X1_findOwn_6 x n) x x_FU h3 v1 v2 v3 v4 v5 0) else none else f_X1_findOwn_92 (f_X1_findOwn_6 x n) x h v1 v2 v3 v4 v5 else none
def f_X1_findOwn (x : Nat) (h : XH) (v1 : Nat) (v2 : Int32) (v3 : Int32) : Option (XH) := f_X1_findOwn_6 x x_FU h v1 v2 v3 0 0
set_option maxRecDepth 20000 in
theorem B_X1_findOwn_92 {p : Program} {l : Launch} {e : Env} {s : State} {m : MethodId} {args : Array Value} {below : List Frame} {meth : Method} {c : Code} {O : XO} {K : XK} {h' : XH}  {k6 : XH → Nat → Int32 → Int32 → Int32 → Int32 → Option (XH)} (C : x_C p s m args meth c O cX1_findOwn 7 RX1 none) (hk6 : ∀ (ls : Array Slot) (H : Heap) (locs : List Loc) (h : XH) (v1 : Nat) (v2 : Int32) (v3 : Int32) (v4 : Int32) (v5 : Int32) (kv1 : K v1 = (3, 0)), lv_has ls 7 [(0, .ref (oX O + 51)), (1, .ref v1), (2, .int v2), (3, .int v3), (4, .int v4), (5, .int v5)] → x_R O K h H → va_S (oA O) s.heap H locs → k6 h v1 v2 v3 v4 v5 = some h' → W p l e (x_rm 2 48) s m args below meth c H locs 0 0 (MQ below (x_Qc O K h' none) args s 0 0 (oA O)) (F0 m 6 ls []))  (ls : Array Slot) (H : Heap) (locs : List Loc) (h : XH) (v1 : Nat) (v2 : Int32) (v3 : Int32) (v4 : Int32) (v5 : Int32) (kv1 : K v1 = (3, 0)) (hl : lv_has ls 7 [(0, .ref (oX O + 51)), (1, .ref v1), (2, .int v2), (3, .int v3), (4, .int v4), (5, .int v5)]) (hR : x_R O K h H) (hS : va_S (oA O) s.heap H locs) (hf : f_X1_findOwn_92 k6 (oX O) h v1 v2 v3 v4 v5 = some h') : W p l e (x_rm 2 48) s m args below meth c H locs 0 0 (MQ below (x_Qc O K h' none) args s 0 0 (oA O)) (F0 m 92 ls []) := by
  have hx := C.1
  have hb := C.2.1
  rw [f_X1_findOwn_92] at hf
  refine lv_iinc (k := 5) (v := _ + 1) (lv' := [(5, _), (0, _), (1, _), (2, _), (3, _), (4, _)]) hx hb dX1_findOwn_92 hl rfl (x_inc 1 1 rfl _) (Nat.le_of_ble_eq_true rfl) rfl (fun ls hl => ?_)
  refine lv_goto (tgt := 6) hx hb dX1_findOwn_95 rfl ?_
  exact hk6 ls _ _ h _ _ _ _ _ kv1 (lv_sub hl [1, 2, 3, 4, 5, 0] rfl) hR hS hf
set_option maxRecDepth 20000 in
theorem B_X1_findOwn_82 {p : Program} {l : Launch} {e : Env} {s : State} {m : MethodId} {args : Array Value} {below : List Frame} {meth : Method} {c : Code} {O : XO} {K : XK} {h' : XH}  {k6 : XH → Nat → Int32 → Int32 → Int32 → Int32 → Option (XH)} {k43 : XH → Nat → Int32 → Int32 → Int32 → Int32 → Int32 → Option (XH)} (C : x_C p s m args meth c O cX1_findOwn 7 RX1 none) (hk6 : ∀ (ls : Array Slot) (H : Heap) (locs : List Loc) (h : XH) (v1 : Nat) (v2 : Int32) (v3 : Int32) (v4 : Int32) (v5 : Int32) (kv1 : K v1 = (3, 0)), lv_has ls 7 [(0, .ref (oX O + 51)), (1, .ref v1), (2, .int v2), (3, .int v3), (4, .int v4), (5, .int v5)] → x_R O K h H → va_S (oA O) s.heap H locs → k6 h v1 v2 v3 v4 v5 = some h' → W p l e (x_rm 2 48) s m args below meth c H locs 0 0 (MQ below (x_Qc O K h' none) args s 0 0 (oA O)) (F0 m 6 ls [])) (hk43 : ∀ (ls : Array Slot) (H : Heap) (locs : List Loc) (h : XH) (v1 : Nat) (v2 : Int32) (v3 : Int32) (v4 : Int32) (v5 : Int32) (v6 : Int32) (kv1 : K v1 = (3, 0)), lv_has ls 7 [(0, .ref (oX O + 51)), (1, .ref v1), (2, .int v2), (3, .int v3), (4, .int v4), (5, .int v5), (6, .int v6)] → x_R O K h H → va_S (oA O) s.heap H locs → k43 h v1 v2 v3 v4 v5 v6 = some h' → W p l e (x_rm 2 48) s m args below meth c H locs 0 0 (MQ below (x_Qc O K h' none) args s 0 0 (oA O)) (F0 m 43 ls []))  (ls : Array Slot) (H : Heap) (locs : List Loc) (h : XH) (v1 : Nat) (v2 : Int32) (v3 : Int32) (v4 : Int32) (v5 : Int32) (v6 : Int32) (s1 : Int32) (s2 : Int32) (kv1 : K v1 = (3, 0)) (hl : lv_has ls 7 [(0, .ref (oX O + 51)), (1, .ref v1), (2, .int v2), (3, .int v3), (4, .int v4), (5, .int v5), (6, .int v6)]) (hR : x_R O K h H) (hS : va_S (oA O) s.heap H locs) (hf : f_X1_findOwn_82 k6 k43 (oX O) h v1 v2 v3 v4 v5 v6 s1 s2 = some h') : W p l e (x_rm 2 48) s m args below meth c H locs 0 0 (MQ below (x_Qc O K h' none) args s 0 0 (oA O)) (F0 m 82 ls [.int s2, .int s1, .ref (oX O + 52)]) := by
  have hx := C.1
  have hb := C.2.1
  rw [f_X1_findOwn_82] at hf
  obtain ⟨g6, hf⟩ := x_gd hf
  obtain ⟨h7, eh7, hf⟩ := x_lt hf
  refine x_iast C hR hS (x_k1 (x_k hR 52 rfl)) (x_k2 (x_k hR 52 rfl) g6) dX1_findOwn_82 (fun H locs hR hS => ?_)
  rw [← eh7] at hR
  refine lv_iinc (k := 6) (v := _ + 1) (lv' := [(6, _), (0, _), (1, _), (2, _), (3, _), (4, _), (5, _)]) hx hb dX1_findOwn_83 hl rfl (x_inc 1 1 rfl _) (Nat.le_of_ble_eq_true rfl) rfl (fun ls hl => ?_)
  refine lv_goto (tgt := 43) hx hb dX1_findOwn_86 rfl ?_
  exact hk43 ls _ _ h7 _ _ _ _ _ _ kv1 (lv_sub hl [1, 2, 3, 4, 5, 6, 0] rfl) hR hS hf
set_option maxRecDepth 20000 in
theorem B_X1_findOwn_43 {p : Program} {l : Launch} {e : Env} {s : State} {m : MethodId} {args : Array Value} {below : List Frame} {meth : Method} {c : Code} {O : XO} {K : XK} {h' : XH}  {k6 : XH → Nat → Int32 → Int32 → Int32 → Int32 → Option (XH)} (C : x_C p s m args meth c O cX1_findOwn 7 RX1 none) (hk6 : ∀ (ls : Array Slot) (H : Heap) (locs : List Loc) (h : XH) (v1 : Nat) (v2 : Int32) (v3 : Int32) (v4 : Int32) (v5 : Int32) (kv1 : K v1 = (3, 0)), lv_has ls 7 [(0, .ref (oX O + 51)), (1, .ref v1), (2, .int v2), (3, .int v3), (4, .int v4), (5, .int v5)] → x_R O K h H → va_S (oA O) s.heap H locs → k6 h v1 v2 v3 v4 v5 = some h' → W p l e (x_rm 2 48) s m args below meth c H locs 0 0 (MQ below (x_Qc O K h' none) args s 0 0 (oA O)) (F0 m 6 ls []))  : ∀ (n : Nat) (ls : Array Slot) (H : Heap) (locs : List Loc) (h : XH) (v1 : Nat) (v2 : Int32) (v3 : Int32) (v4 : Int32) (v5 : Int32) (v6 : Int32) (kv1 : K v1 = (3, 0)) (hl : lv_has ls 7 [(0, .ref (oX O + 51)), (1, .ref v1), (2, .int v2), (3, .int v3), (4, .int v4), (5, .int v5), (6, .int v6)]) (hR : x_R O K h H) (hS : va_S (oA O) s.heap H locs) (hf : f_X1_findOwn_43 k6 (oX O) n h v1 v2 v3 v4 v5 v6 = some h'), W p l e (x_rm 2 48) s m args below meth c H locs 0 0 (MQ below (x_Qc O K h' none) args s 0 0 (oA O)) (F0 m 43 ls []) := by
  have hx := C.1
  have hb := C.2.1
  intro n
  induction n with
  | zero =>
    intro ls H locs h v1 v2 v3 v4 v5 v6 kv1 hl hR hS hf
    rw [f_X1_findOwn_43] at hf
    cases hf
  | succ n ih =>
    intro ls H locs h v1 v2 v3 v4 v5 v6 kv1 hl hR hS hf
    rw [f_X1_findOwn_43] at hf
    refine lv_iload hx hb dX1_findOwn_43 (lv_at hl 6 rfl) ?_
    refine lv_iload_n hx hb dX1_findOwn_45 rfl (lv_at hl 2 rfl) ?_
    refine lv_icmp_ge (tgt := 89) hx hb dX1_findOwn_46 rfl (fun hc => ?_) (fun hc => ?_)
    · have hf := x_ip hc hf
      refine lv_iinc (k := 4) (v := _ + 1) (lv' := [(4, _), (0, _), (1, _), (2, _), (3, _), (5, _), (6, _)]) hx hb dX1_findOwn_89 hl rfl (x_inc 1 1 rfl _) (Nat.le_of_ble_eq_true rfl) rfl (fun ls hl => ?_)
      exact B_X1_findOwn_92  C hk6  ls _ _ h _ _ _ _ _ kv1 (lv_sub hl [1, 2, 3, 4, 0, 5] rfl) hR hS hf
    · have hf := x_in hc hf
      refine lv_aload_n hx hb dX1_findOwn_49 rfl (lv_at hl 0 rfl) ?_
      refine gf_1_1 C hR (x_k hR 51 rfl) tw_423 dX1_findOwn_50 ?_
      refine lv_iload hx hb dX1_findOwn_53 (lv_at hl 4 rfl) ?_
      refine lv_aload_n hx hb dX1_findOwn_55 rfl (lv_at hl 1 rfl) ?_
      refine lv_iload hx hb dX1_findOwn_56 (lv_at hl 6 rfl) ?_
      obtain ⟨v_4, ev_4, hf⟩ := x_bd hf
      refine x_cVi1 C hR hS (S_X2_lackAt kv1 ev_4) kv1 (by decide) rfl mf_X2_lackAt tw_1328 (Nat.le_of_ble_eq_true rfl) (Nat.le_of_ble_eq_true rfl) hl.1 (Nat.le_of_ble_eq_true rfl) dX1_findOwn_58 ⟨Nat.le_refl _, Nat.le_refl _⟩ (fun H locs hR hS => ?_)
      refine lv_aload_n hx hb dX1_findOwn_61 rfl (lv_at hl 1 rfl) ?_
      refine lv_iload hx hb dX1_findOwn_62 (lv_at hl 5 rfl) ?_
      refine x_cVi1 C hR hS (S_X2_cardAt kv1 rfl) kv1 (by decide) rfl mf_X2_cardAt tw_1329 (Nat.le_of_ble_eq_true rfl) (Nat.le_of_ble_eq_true rfl) hl.1 (Nat.le_of_ble_eq_true rfl) dX1_findOwn_64 ⟨Nat.le_refl _, Nat.le_refl _⟩ (fun H locs hR hS => ?_)
      refine lv_icmp_ne (tgt := 75) hx hb dX1_findOwn_67 rfl (fun hc => ?_) (fun hc => ?_)
      · have hf := x_in hc hf
        refine lv_aload_n hx hb dX1_findOwn_75 rfl (lv_at hl 0 rfl) ?_
        refine gf_1_1 C hR (x_k hR 51 rfl) tw_423 dX1_findOwn_76 ?_
        refine lv_iload hx hb dX1_findOwn_79 (lv_at hl 4 rfl) ?_
        obtain ⟨g5, hf⟩ := x_gd hf
        refine x_iald C hR (x_k1 (x_k hR 52 rfl)) (x_k2 (x_k hR 52 rfl) g5) dX1_findOwn_81 ?_
        exact B_X1_findOwn_82  C hk6 ih  ls _ _ h _ _ _ _ _ _ _ _ kv1 (lv_sub hl [0, 1, 2, 3, 4, 5, 6] rfl) hR hS hf
      · have hf := x_ip hc hf
        refine lv_iload hx hb dX1_findOwn_70 (lv_at hl 6 rfl) ?_
        refine lv_goto (tgt := 82) hx hb dX1_findOwn_72 rfl ?_
        exact B_X1_findOwn_82  C hk6 ih  ls _ _ h _ _ _ _ _ _ _ _ kv1 (lv_sub hl [0, 1, 2, 3, 4, 5, 6] rfl) hR hS hf
set_option maxRecDepth 20000 in
theorem B_X1_findOwn_6 {p : Program} {l : Launch} {e : Env} {s : State} {m : MethodId} {args : Array Value} {below : List Frame} {meth : Method} {c : Code} {O : XO} {K : XK} {h' : XH}   (C : x_C p s m args meth c O cX1_findOwn 7 RX1 none)   : ∀ (n : Nat) (ls : Array Slot) (H : Heap) (locs : List Loc) (h : XH) (v1 : Nat) (v2 : Int32) (v3 : Int32) (v4 : Int32) (v5 : Int32) (kv1 : K v1 = (3, 0)) (hl : lv_has ls 7 [(0, .ref (oX O + 51)), (1, .ref v1), (2, .int v2), (3, .int v3), (4, .int v4), (5, .int v5)]) (hR : x_R O K h H) (hS : va_S (oA O) s.heap H locs) (hf : f_X1_findOwn_6 (oX O) n h v1 v2 v3 v4 v5 = some h'), W p l e (x_rm 2 48) s m args below meth c H locs 0 0 (MQ below (x_Qc O K h' none) args s 0 0 (oA O)) (F0 m 6 ls []) := by
  have hx := C.1
  have hb := C.2.1
  intro n
  induction n with
  | zero =>
    intro ls H locs h v1 v2 v3 v4 v5 kv1 hl hR hS hf
    rw [f_X1_findOwn_6] at hf
    cases hf
  | succ n ih =>
    intro ls H locs h v1 v2 v3 v4 v5 kv1 hl hR hS hf
    rw [f_X1_findOwn_6] at hf
    refine lv_iload hx hb dX1_findOwn_6 (lv_at hl 5 rfl) ?_
    refine lv_aload_n hx hb dX1_findOwn_8 rfl (lv_at hl 1 rfl) ?_
    refine gf_2_2 C hR kv1 tw_253 dX1_findOwn_9 ?_
    refine lv_icmp_ge (tgt := 98) hx hb dX1_findOwn_12 rfl (fun hc => ?_) (fun hc => ?_)
    · have hf := x_ip hc hf
      cases hf
      exact x_vret C hR hS dX1_findOwn_98
    · have hf := x_in hc hf
      refine lv_iload hx hb dX1_findOwn_15 (lv_at hl 4 rfl) ?_
      refine lv_iload_n hx hb dX1_findOwn_17 rfl (lv_at hl 3 rfl) ?_
      refine lv_icmp_ge (tgt := 98) hx hb dX1_findOwn_18 rfl (fun hc => ?_) (fun hc => ?_)
      · have hf := x_ip hc hf
        cases hf
        exact x_vret C hR hS dX1_findOwn_98
      · have hf := x_in hc hf
        refine lv_aload_n hx hb dX1_findOwn_21 rfl (lv_at hl 1 rfl) ?_
        refine gf_2_5 C hR kv1 tw_269 dX1_findOwn_22 ?_
        refine lv_iload hx hb dX1_findOwn_25 (lv_at hl 5 rfl) ?_
        obtain ⟨g1, hf⟩ := x_gd hf
        refine x_iald C hR (x_k1 (kf_2_2 hR kv1)) (x_k2 (kf_2_2 hR kv1) g1) dX1_findOwn_27 ?_
        refine lv_iconst (v := (-1)) hx hb dX1_findOwn_28 rfl ?_
        refine lv_icmp_ne (tgt := 92) hx hb dX1_findOwn_29 rfl (fun hc => ?_) (fun hc => ?_)
        · have hf := x_in hc hf
          exact B_X1_findOwn_92  C ih  ls _ _ h _ _ _ _ _ kv1 (lv_sub hl [0, 1, 2, 3, 4, 5] rfl) hR hS hf
        · have hf := x_ip hc hf
          refine lv_aload_n hx hb dX1_findOwn_32 rfl (lv_at hl 0 rfl) ?_
          refine gf_1_1 C hR (x_k hR 51 rfl) tw_423 dX1_findOwn_33 ?_
          refine lv_iload hx hb dX1_findOwn_36 (lv_at hl 4 rfl) ?_
          refine lv_iconst (v := (-1)) hx hb dX1_findOwn_38 rfl ?_
          obtain ⟨g2, hf⟩ := x_gd hf
          obtain ⟨h3, eh3, hf⟩ := x_lt hf
          refine x_iast C hR hS (x_k1 (x_k hR 52 rfl)) (x_k2 (x_k hR 52 rfl) g2) dX1_findOwn_39 (fun H locs hR hS => ?_)
          rw [← eh3] at hR
          refine lv_iconst (v := 0) hx hb dX1_findOwn_40 rfl ?_
          refine lv_istore (lv' := [(6, _), (0, _), (1, _), (2, _), (3, _), (4, _), (5, _)]) hx hb dX1_findOwn_41 hl (Nat.le_of_ble_eq_true rfl) rfl (fun ls hl => ?_)
          exact B_X1_findOwn_43  C ih x_FU ls _ _ h3 _ _ _ _ _ _ kv1 (lv_sub hl [1, 2, 3, 4, 5, 6, 0] rfl) hR hS hf
set_option maxRecDepth 20000 in
theorem S_X1_findOwn {l : Launch} {O : XO} {K : XK} {h : XH} {v1 : Nat} {v2 : Int32} {v3 : Int32}  {h' : XH} (k1 : K v1 = (3, 0)) (hf : f_X1_findOwn (oX O) h v1 v2 v3 = some h') : x_M l O K yX1_findOwn cX1_findOwn 7 none 2 48 h [.ref (oX O + 51), .ref v1, .int v2, .int v3] none h' := by
  refine x_enter (by decide) (Nat.le_of_ble_eq_true rfl) (fun p e s m args below meth c C hR ls hl => ?_)
  have hS : va_S (oA O) s.heap s.heap [] := va_S.rf
  have hx := C.1
  have hb := C.2.1
  have hl : lv_has ls 7 [(0, .ref (oX O + 51)), (1, .ref v1), (2, .int v2), (3, .int v3)] := hl
  rw [f_X1_findOwn] at hf
  refine lv_iconst (v := 0) hx hb dX1_findOwn_0 rfl ?_
  refine lv_istore (lv' := [(4, _), (0, _), (1, _), (2, _), (3, _)]) hx hb dX1_findOwn_1 hl (Nat.le_of_ble_eq_true rfl) rfl (fun ls hl => ?_)
  refine lv_iconst (v := 0) hx hb dX1_findOwn_3 rfl ?_
  refine lv_istore (lv' := [(5, _), (4, _), (0, _), (1, _), (2, _), (3, _)]) hx hb dX1_findOwn_4 hl (Nat.le_of_ble_eq_true rfl) rfl (fun ls hl => ?_)
  exact B_X1_findOwn_6  C  x_FU ls _ _ h _ _ _ _ _ k1 (lv_sub hl [2, 3, 4, 5, 1, 0] rfl) hR hS hf
def f_X2_begin (K : XK) (a : Nat) (h : XH) (v1 : Int32) (v2 : Int32) (v3 : Int32) : Option (XH) := x_let (x_i h a 0 v1) (fun h1 => x_let (x_i h1 a 1 v2) (fun h2 => x_let (x_i h2 a 2 v3) (fun h3 => x_let (x_i h3 a 3 0) (fun h4 => Option.bind (f_J7_fill_53178 K h4 (a + 2) (-1)) (fun h5 => some h5)))))
set_option maxRecDepth 20000 in
theorem S_X2_begin {l : Launch} {O : XO} {K : XK} {h : XH} {a : Nat} {v1 : Int32} {v2 : Int32} {v3 : Int32}  {h' : XH} (k0 : K a = (3, 0)) (hf : f_X2_begin K a h v1 v2 v3 = some h') : x_M l O K yX2_begin cX2_begin 4 none 1 23 h [.ref a, .int v1, .int v2, .int v3] none h' := by
  refine x_enter (by decide) (Nat.le_of_ble_eq_true rfl) (fun p e s m args below meth c C hR ls hl => ?_)
  have hS : va_S (oA O) s.heap s.heap [] := va_S.rf
  have hx := C.1
  have hb := C.2.1
  have hl : lv_has ls 4 [(0, .ref a), (1, .int v1), (2, .int v2), (3, .int v3)] := hl
  rw [f_X2_begin] at hf
  refine lv_aload_n hx hb dX2_begin_0 rfl (lv_at hl 0 rfl) ?_
  refine lv_iload_n hx hb dX2_begin_1 rfl (lv_at hl 1 rfl) ?_
  obtain ⟨h1, eh1, hf⟩ := x_lt hf
  refine pf_2_0 C hR hS k0 tw_250 dX2_begin_2 (fun H locs hR hS => ?_)
  rw [← eh1] at hR
  refine lv_aload_n hx hb dX2_begin_5 rfl (lv_at hl 0 rfl) ?_
  refine lv_iload_n hx hb dX2_begin_6 rfl (lv_at hl 2 rfl) ?_
  obtain ⟨h2, eh2, hf⟩ := x_lt hf
  refine pf_2_1 C hR hS k0 tw_251 dX2_begin_7 (fun H locs hR hS => ?_)
  rw [← eh2] at hR
  refine lv_aload_n hx hb dX2_begin_10 rfl (lv_at hl 0 rfl) ?_
  refine lv_iload_n hx hb dX2_begin_11 rfl (lv_at hl 3 rfl) ?_
  obtain ⟨h3, eh3, hf⟩ := x_lt hf
  refine pf_2_2 C hR hS k0 tw_252 dX2_begin_12 (fun H locs hR hS => ?_)
  rw [← eh3] at hR
  refine lv_aload_n hx hb dX2_begin_15 rfl (lv_at hl 0 rfl) ?_
  refine lv_iconst (v := 0) hx hb dX2_begin_16 rfl ?_
  obtain ⟨h4, eh4, hf⟩ := x_lt hf
  refine pf_2_3 C hR hS (Or.inl rfl) k0 tw_257 dX2_begin_17 (fun H locs hR hS => ?_)
  rw [← eh4] at hR
  refine lv_aload_n hx hb dX2_begin_20 rfl (lv_at hl 0 rfl) ?_
  refine gf_2_5 C hR k0 tw_267 dX2_begin_21 ?_
  refine lv_iconst (v := (-1)) hx hb dX2_begin_24 rfl ?_
  obtain ⟨h5, eh5, hf⟩ := x_bd hf
  refine x_cSv2 C hR hS (S_J7_fill_53178 (x_k1 (kf_2_2 hR k0)) eh5) mf_J7_fill_53178 tw_947 (Nat.le_of_ble_eq_true rfl) (Nat.le_of_ble_eq_true rfl) hl.1 (Nat.le_of_ble_eq_true rfl) dX2_begin_25 ⟨Nat.le_refl _, Nat.le_refl _⟩ (fun H locs hR hS => ?_)
  cases hf
  exact x_vret C hR hS dX2_begin_28
def f_X2_cardsAt (a : Nat) (h : XH) (v1 : Int32) : Int32 := (f_J9_min_7cf53 h (h.1 (a + 1) 2) ((h.1 a 2) - (v1 * (h.1 (a + 1) 2))))
set_option maxRecDepth 20000 in
theorem S_X2_cardsAt {l : Launch} {O : XO} {K : XK} {h : XH} {a : Nat} {v1 : Int32}  {r : Int32} (k0 : K a = (3, 0)) (hf : f_X2_cardsAt a h v1 = r) : x_M l O K yX2_cardsAt cX2_cardsAt 2 (some .int) 1 21 h [.ref a, .int v1] (some (.int r)) h := by
  refine x_enter (by decide) (Nat.le_of_ble_eq_true rfl) (fun p e s m args below meth c C hR ls hl => ?_)
  have hS : va_S (oA O) s.heap s.heap [] := va_S.rf
  have hx := C.1
  have hb := C.2.1
  have hl : lv_has ls 2 [(0, .ref a), (1, .int v1)] := hl
  rw [f_X2_cardsAt] at hf
  refine lv_aload_n hx hb dX2_cardsAt_0 rfl (lv_at hl 0 rfl) ?_
  refine gf_2_4 C hR k0 tw_262 dX2_cardsAt_1 ?_
  refine gf_4_2 C hR (kf_2_1 hR k0) tw_220 dX2_cardsAt_4 ?_
  refine lv_aload_n hx hb dX2_cardsAt_7 rfl (lv_at hl 0 rfl) ?_
  refine gf_2_2 C hR k0 tw_252 dX2_cardsAt_8 ?_
  refine lv_iload_n hx hb dX2_cardsAt_11 rfl (lv_at hl 1 rfl) ?_
  refine lv_aload_n hx hb dX2_cardsAt_12 rfl (lv_at hl 0 rfl) ?_
  refine gf_2_4 C hR k0 tw_262 dX2_cardsAt_13 ?_
  refine gf_4_2 C hR (kf_2_1 hR k0) tw_220 dX2_cardsAt_16 ?_
  refine lv_imul hx hb dX2_cardsAt_19 ?_
  refine lv_isub hx hb dX2_cardsAt_20 ?_
  refine x_cSi2 C hR hS (S_J9_min_7cf53  rfl) mf_J9_min_7cf53 tw_1195 (Nat.le_of_ble_eq_true rfl) (Nat.le_of_ble_eq_true rfl) hl.1 (Nat.le_of_ble_eq_true rfl) dX2_cardsAt_21 ⟨Nat.le_refl _, Nat.le_refl _⟩ (fun H locs hR hS => ?_)
  cases hf
  exact x_iret C hR hS dX2_cardsAt_24
def f_X3_begin (K : XK) (x : Nat) (h : XH) : Option (XH) := x_let (x_i h (x + 54) 4 0) (fun h1 => x_let (x_i h1 (x + 54) 5 (-1)) (fun h2 => Option.bind (f_J7_fill_53178 K h2 (x + 56) (-1)) (fun h3 => some h3)))
set_option maxRecDepth 20000 in
theorem S_X3_begin {l : Launch} {O : XO} {K : XK} {h : XH}  {h' : XH}  (hf : f_X3_begin K (oX O) h = some h') : x_M l O K yX3_begin cX3_begin 1 none 1 23 h [.ref (oX O + 54)] none h' := by
  refine x_enter (by decide) (Nat.le_of_ble_eq_true rfl) (fun p e s m args below meth c C hR ls hl => ?_)
  have hS : va_S (oA O) s.heap s.heap [] := va_S.rf
  have hx := C.1
  have hb := C.2.1
  have hl : lv_has ls 1 [(0, .ref (oX O + 54))] := hl
  rw [f_X3_begin] at hf
  refine lv_aload_n hx hb dX3_begin_0 rfl (lv_at hl 0 rfl) ?_
  refine lv_iconst (v := 0) hx hb dX3_begin_1 rfl ?_
  obtain ⟨h1, eh1, hf⟩ := x_lt hf
  refine pf_3_4 C hR hS (x_k hR 54 rfl) tw_454 dX3_begin_2 (fun H locs hR hS => ?_)
  rw [← eh1] at hR
  refine lv_aload_n hx hb dX3_begin_5 rfl (lv_at hl 0 rfl) ?_
  refine lv_iconst (v := (-1)) hx hb dX3_begin_6 rfl ?_
  obtain ⟨h2, eh2, hf⟩ := x_lt hf
  refine pf_3_5 C hR hS (x_k hR 54 rfl) tw_455 dX3_begin_7 (fun H locs hR hS => ?_)
  rw [← eh2] at hR
  refine lv_aload_n hx hb dX3_begin_10 rfl (lv_at hl 0 rfl) ?_
  refine gf_3_1 C hR (x_k hR 54 rfl) tw_451 dX3_begin_11 ?_
  refine lv_iconst (v := (-1)) hx hb dX3_begin_14 rfl ?_
  obtain ⟨h3, eh3, hf⟩ := x_bd hf
  refine x_cSv2 C hR hS (S_J7_fill_53178 (x_k1 (x_k hR 56 rfl)) eh3) mf_J7_fill_53178 tw_1424 (Nat.le_of_ble_eq_true rfl) (Nat.le_of_ble_eq_true rfl) hl.1 (Nat.le_of_ble_eq_true rfl) dX3_begin_15 ⟨Nat.le_refl _, Nat.le_refl _⟩ (fun H locs hR hS => ?_)
  cases hf
  exact x_vret C hR hS dX3_begin_18
def f_X5_forgetTouches (K : XK) (x : Nat) (h : XH) : Option (XH) := Option.bind (f_J7_fill_53178 K h (x + 48) (-1)) (fun h1 => some h1)
set_option maxRecDepth 20000 in
theorem S_X5_forgetTouches {l : Launch} {O : XO} {K : XK} {h : XH}  {h' : XH}  (hf : f_X5_forgetTouches K (oX O) h = some h') : x_M l O K yX5_forgetTouches cX5_forgetTouches 1 none 1 23 h [.ref (oX O + 46)] none h' := by
  refine x_enter (by decide) (Nat.le_of_ble_eq_true rfl) (fun p e s m args below meth c C hR ls hl => ?_)
  have hS : va_S (oA O) s.heap s.heap [] := va_S.rf
  have hx := C.1
  have hb := C.2.1
  have hl : lv_has ls 1 [(0, .ref (oX O + 46))] := hl
  rw [f_X5_forgetTouches] at hf
  refine lv_aload_n hx hb dX5_forgetTouches_0 rfl (lv_at hl 0 rfl) ?_
  refine gf_5_3 C hR (x_k hR 46 rfl) tw_393 dX5_forgetTouches_1 ?_
  refine lv_iconst (v := (-1)) hx hb dX5_forgetTouches_4 rfl ?_
  obtain ⟨h1, eh1, hf⟩ := x_bd hf
  refine x_cSv2 C hR hS (S_J7_fill_53178 (x_k1 (x_k hR 48 rfl)) eh1) mf_J7_fill_53178 tw_1367 (Nat.le_of_ble_eq_true rfl) (Nat.le_of_ble_eq_true rfl) hl.1 (Nat.le_of_ble_eq_true rfl) dX5_forgetTouches_5 ⟨Nat.le_refl _, Nat.le_refl _⟩ (fun H locs hR hS => ?_)
  cases hf
  exact x_vret C hR hS dX5_forgetTouches_8
def f_X5_likeAt_74 (k35 : Nat → Int32 → Int32 → Int32 → Int32 → Int32 → Option Int32) (x : Nat) (h : XH) (v2 : Nat) (v3 : Int32) (v4 : Int32) (v5 : Int32) (v6 : Int32) (v7 : Int32) : Option Int32 := k35 v2 v3 v4 v5 v6 (v7 + 1)
def f_X5_likeAt_35 (x : Nat) (h : XH) : Nat → Nat → Int32 → Int32 → Int32 → Int32 → Int32 → Option Int32
  | 0, _, _, _, _, _, _ => none
  | n + 1, v2, v3, v4, v5, v6, v7 => if v5 ≤ v7 then some v6 else if v7 = v3 then f_X5_likeAt_74 (f_X5_likeAt_35 x h n) x h v2 v3 v4 v5 v6 v7 else Option.bind (f_X7_lookOf (x + 9) h (h.1 v2 0) ((h.1 v2 1) + v7)) (fun v_3 => f_X5_likeAt_74 (f_X5_likeAt_35 x h n) x h v2 v3 v4 v5 (if v_3 = v4 then (v6 + 1) else v6) v7)
def f_X5_likeAt (x : Nat) (h : XH) (v1 : Nat) (v2 : Nat) (v3 : Int32) : Option Int32 := Option.bind (f_X7_lookOf (x + 9) h (h.1 v2 0) ((h.1 v2 1) + v3)) (fun v_1 => Option.bind (f_X2_placesBy v1 h (h.1 v2 2)) (fun v_2 => f_X5_likeAt_35 x h x_FU v2 v3 v_1 v_2 0 0))
set_option maxRecDepth 20000 in
theorem B_X5_likeAt_74 {p : Program} {l : Launch} {e : Env} {s : State} {m : MethodId} {args : Array Value} {below : List Frame} {meth : Method} {c : Code} {O : XO} {K : XK} {h : XH} {r : Int32}  {k35 : Nat → Int32 → Int32 → Int32 → Int32 → Int32 → Option Int32} (C : x_C p s m args meth c O cX5_likeAt 8 RX5 (some .int)) (hk35 : ∀ (ls : Array Slot) (H : Heap) (locs : List Loc) (v2 : Nat) (v3 : Int32) (v4 : Int32) (v5 : Int32) (v6 : Int32) (v7 : Int32) (kv2 : K v2 = (5, 0)), lv_has ls 8 [(0, .ref (oX O + 46)), (2, .ref v2), (3, .int v3), (4, .int v4), (5, .int v5), (6, .int v6), (7, .int v7)] → x_R O K h H → va_S (oA O) s.heap H locs → k35 v2 v3 v4 v5 v6 v7 = some r → W p l e (x_rm 1 22) s m args below meth c H locs 0 0 (MQ below (x_Qc O K h (some (.int r))) args s 0 0 (oA O)) (F0 m 35 ls []))  (ls : Array Slot) (H : Heap) (locs : List Loc) (v2 : Nat) (v3 : Int32) (v4 : Int32) (v5 : Int32) (v6 : Int32) (v7 : Int32) (kv2 : K v2 = (5, 0)) (hl : lv_has ls 8 [(0, .ref (oX O + 46)), (2, .ref v2), (3, .int v3), (4, .int v4), (5, .int v5), (6, .int v6), (7, .int v7)]) (hR : x_R O K h H) (hS : va_S (oA O) s.heap H locs) (hf : f_X5_likeAt_74 k35 (oX O) h v2 v3 v4 v5 v6 v7 = some r) : W p l e (x_rm 1 22) s m args below meth c H locs 0 0 (MQ below (x_Qc O K h (some (.int r))) args s 0 0 (oA O)) (F0 m 74 ls []) := by
  have hx := C.1
  have hb := C.2.1
  rw [f_X5_likeAt_74] at hf
  refine lv_iinc (k := 6) (v := _ + 1) (lv' := [(7, _), (0, _), (2, _), (3, _), (4, _), (5, _), (6, _)]) hx hb dX5_likeAt_74 hl rfl (x_inc 1 1 rfl _) (Nat.le_of_ble_eq_true rfl) rfl (fun ls hl => ?_)
  refine lv_goto (tgt := 35) hx hb dX5_likeAt_77 rfl ?_
  exact hk35 ls _ _ _ _ _ _ _ _ kv2 (lv_sub hl [1, 2, 3, 4, 5, 6, 0] rfl) hR hS hf
set_option maxRecDepth 20000 in
theorem B_X5_likeAt_35 {p : Program} {l : Launch} {e : Env} {s : State} {m : MethodId} {args : Array Value} {below : List Frame} {meth : Method} {c : Code} {O : XO} {K : XK} {h : XH} {r : Int32}   (C : x_C p s m args meth c O cX5_likeAt 8 RX5 (some .int))   : ∀ (n : Nat) (ls : Array Slot) (H : Heap) (locs : List Loc) (v2 : Nat) (v3 : Int32) (v4 : Int32) (v5 : Int32) (v6 : Int32) (v7 : Int32) (kv2 : K v2 = (5, 0)) (hl : lv_has ls 8 [(0, .ref (oX O + 46)), (2, .ref v2), (3, .int v3), (4, .int v4), (5, .int v5), (6, .int v6), (7, .int v7)]) (hR : x_R O K h H) (hS : va_S (oA O) s.heap H locs) (hf : f_X5_likeAt_35 (oX O) h n v2 v3 v4 v5 v6 v7 = some r), W p l e (x_rm 1 22) s m args below meth c H locs 0 0 (MQ below (x_Qc O K h (some (.int r))) args s 0 0 (oA O)) (F0 m 35 ls []) := by
  have hx := C.1
  have hb := C.2.1
  intro n
  induction n with
  | zero =>
    intro ls H locs v2 v3 v4 v5 v6 v7 kv2 hl hR hS hf
    rw [f_X5_likeAt_35] at hf
    cases hf
  | succ n ih =>
    intro ls H locs v2 v3 v4 v5 v6 v7 kv2 hl hR hS hf
    rw [f_X5_likeAt_35] at hf
    refine lv_iload hx hb dX5_likeAt_35 (lv_at hl 6 rfl) ?_
    refine lv_iload hx hb dX5_likeAt_37 (lv_at hl 4 rfl) ?_
    refine lv_icmp_ge (tgt := 80) hx hb dX5_likeAt_39 rfl (fun hc => ?_) (fun hc => ?_)
    · have hf := x_ip hc hf
      refine lv_iload hx hb dX5_likeAt_80 (lv_at hl 5 rfl) ?_
      cases hf
      exact x_iret C hR hS dX5_likeAt_82
    · have hf := x_in hc hf
      refine lv_iload hx hb dX5_likeAt_42 (lv_at hl 6 rfl) ?_
      refine lv_iload_n hx hb dX5_likeAt_44 rfl (lv_at hl 2 rfl) ?_
      refine lv_icmp_eq (tgt := 74) hx hb dX5_likeAt_45 rfl (fun hc => ?_) (fun hc => ?_)
      · have hf := x_ip hc hf
        exact B_X5_likeAt_74  C ih  ls _ _ _ _ _ _ _ _ kv2 (lv_sub hl [0, 1, 2, 3, 4, 5, 6] rfl) hR hS hf
      · have hf := x_in hc hf
        refine lv_aload_n hx hb dX5_likeAt_48 rfl (lv_at hl 0 rfl) ?_
        refine gf_5_0 C hR (x_k hR 46 rfl) tw_390 dX5_likeAt_49 ?_
        refine lv_aload_n hx hb dX5_likeAt_52 rfl (lv_at hl 1 rfl) ?_
        refine gf_4_0 C hR kv2 tw_213 dX5_likeAt_53 ?_
        refine lv_aload_n hx hb dX5_likeAt_56 rfl (lv_at hl 1 rfl) ?_
        refine gf_4_1 C hR kv2 tw_216 dX5_likeAt_57 ?_
        refine lv_iload hx hb dX5_likeAt_60 (lv_at hl 6 rfl) ?_
        refine lv_iadd hx hb dX5_likeAt_62 ?_
        obtain ⟨v_3, ev_3, hf⟩ := x_bd hf
        refine x_cVi2 C hR hS (S_X7_lookOf (x_k hR 9 rfl) ev_3) (x_k hR 9 rfl) (by decide) rfl mf_X7_lookOf tw_1077 (Nat.le_of_ble_eq_true rfl) (Nat.le_of_ble_eq_true rfl) hl.1 (Nat.le_of_ble_eq_true rfl) dX5_likeAt_63 ⟨Nat.le_refl _, Nat.le_refl _⟩ (fun H locs hR hS => ?_)
        refine lv_iload hx hb dX5_likeAt_66 (lv_at hl 3 rfl) ?_
        have kM4 : ∀ (ls : Array Slot) (H : Heap) (locs : List Loc), lv_has ls 8 [(0, .ref (oX O + 46)), (2, .ref v2), (3, .int v3), (4, .int v4), (5, .int v5), (6, .int (if v_3 = v4 then (v6 + 1) else v6)), (7, .int v7)] → x_R O K h H → va_S (oA O) s.heap H locs → W p l e (x_rm 1 22) s m args below meth c H locs 0 0 (MQ below (x_Qc O K h (some (.int r))) args s 0 0 (oA O)) (F0 m 74 ls []) := by
          intro ls H locs hl hR hS
          exact B_X5_likeAt_74  C ih  ls _ _ _ _ _ _ _ _ kv2 (lv_sub hl [0, 1, 2, 3, 4, 5, 6] rfl) hR hS hf
        refine lv_icmp_ne (tgt := 74) hx hb dX5_likeAt_68 rfl (fun hc => ?_) (fun hc => ?_)
        · try simp only [if_neg hc] at kM4
          exact kM4 ls _ _ (lv_sub hl [0, 1, 2, 3, 4, 5, 6] rfl) hR hS
        · try simp only [if_pos hc] at kM4
          refine lv_iinc (k := 5) (v := _ + 1) (lv' := [(6, _), (0, _), (2, _), (3, _), (4, _), (5, _), (7, _)]) hx hb dX5_likeAt_71 hl rfl (x_inc 1 1 rfl _) (Nat.le_of_ble_eq_true rfl) rfl (fun ls hl => ?_)
          exact kM4 ls _ _ (lv_sub hl [1, 2, 3, 4, 5, 0, 6] rfl) hR hS
set_option maxRecDepth 20000 in
theorem S_X5_likeAt {l : Launch} {O : XO} {K : XK} {h : XH} {v1 : Nat} {v2 : Nat} {v3 : Int32}  {r : Int32} (k1 : K v1 = (3, 0)) (k2 : K v2 = (5, 0)) (hf : f_X5_likeAt (oX O) h v1 v2 v3 = some r) : x_M l O K yX5_likeAt cX5_likeAt 8 (some .int) 1 22 h [.ref (oX O + 46), .ref v1, .ref v2, .int v3] (some (.int r)) h := by
  refine x_enter (by decide) (Nat.le_of_ble_eq_true rfl) (fun p e s m args below meth c C hR ls hl => ?_)
  have hS : va_S (oA O) s.heap s.heap [] := va_S.rf
  have hx := C.1
  have hb := C.2.1
  have hl : lv_has ls 8 [(0, .ref (oX O + 46)), (1, .ref v1), (2, .ref v2), (3, .int v3)] := hl
  rw [f_X5_likeAt] at hf
  refine lv_aload_n hx hb dX5_likeAt_0 rfl (lv_at hl 0 rfl) ?_
  refine gf_5_0 C hR (x_k hR 46 rfl) tw_390 dX5_likeAt_1 ?_
  refine lv_aload_n hx hb dX5_likeAt_4 rfl (lv_at hl 2 rfl) ?_
  refine gf_4_0 C hR k2 tw_213 dX5_likeAt_5 ?_
  refine lv_aload_n hx hb dX5_likeAt_8 rfl (lv_at hl 2 rfl) ?_
  refine gf_4_1 C hR k2 tw_216 dX5_likeAt_9 ?_
  refine lv_iload_n hx hb dX5_likeAt_12 rfl (lv_at hl 3 rfl) ?_
  refine lv_iadd hx hb dX5_likeAt_13 ?_
  obtain ⟨v_1, ev_1, hf⟩ := x_bd hf
  refine x_cVi2 C hR hS (S_X7_lookOf (x_k hR 9 rfl) ev_1) (x_k hR 9 rfl) (by decide) rfl mf_X7_lookOf tw_1077 (Nat.le_of_ble_eq_true rfl) (Nat.le_of_ble_eq_true rfl) hl.1 (Nat.le_of_ble_eq_true rfl) dX5_likeAt_14 ⟨Nat.le_refl _, Nat.le_refl _⟩ (fun H locs hR hS => ?_)
  refine lv_istore (lv' := [(4, _), (0, _), (1, _), (2, _), (3, _)]) hx hb dX5_likeAt_17 hl (Nat.le_of_ble_eq_true rfl) rfl (fun ls hl => ?_)
  refine lv_aload_n hx hb dX5_likeAt_19 rfl (lv_at hl 2 rfl) ?_
  refine lv_aload_n hx hb dX5_likeAt_20 rfl (lv_at hl 3 rfl) ?_
  refine gf_4_2 C hR k2 tw_221 dX5_likeAt_21 ?_
  obtain ⟨v_2, ev_2, hf⟩ := x_bd hf
  refine x_cVi1 C hR hS (S_X2_placesBy k1 ev_2) k1 (by decide) rfl mf_X2_placesBy tw_1078 (Nat.le_of_ble_eq_true rfl) (Nat.le_of_ble_eq_true rfl) hl.1 (Nat.le_of_ble_eq_true rfl) dX5_likeAt_24 ⟨Nat.le_refl _, Nat.le_refl _⟩ (fun H locs hR hS => ?_)
  refine lv_istore (lv' := [(5, _), (4, _), (0, _), (1, _), (2, _), (3, _)]) hx hb dX5_likeAt_27 hl (Nat.le_of_ble_eq_true rfl) rfl (fun ls hl => ?_)
  refine lv_iconst (v := 0) hx hb dX5_likeAt_29 rfl ?_
  refine lv_istore (lv' := [(6, _), (5, _), (4, _), (0, _), (1, _), (2, _), (3, _)]) hx hb dX5_likeAt_30 hl (Nat.le_of_ble_eq_true rfl) rfl (fun ls hl => ?_)
  refine lv_iconst (v := 0) hx hb dX5_likeAt_32 rfl ?_
  refine lv_istore (lv' := [(7, _), (6, _), (5, _), (4, _), (0, _), (1, _), (2, _), (3, _)]) hx hb dX5_likeAt_33 hl (Nat.le_of_ble_eq_true rfl) rfl (fun ls hl => ?_)
  exact B_X5_likeAt_35  C  x_FU ls _ _ _ _ _ _ _ _ k2 (lv_sub hl [4, 6, 7, 3, 2, 1, 0] rfl) hR hS hf
def f_X6_alikeTo_94 (k38 : Nat → Int32 → Int32 → Int32 → Int32 → Int32 → Int32 → Option Int32) (x : Nat) (h : XH) (v1 : Nat) (v2 : Int32) (v3 : Int32) (v4 : Int32) (v5 : Int32) (v6 : Int32) (v7 : Int32) : Option Int32 := k38 v1 v2 v3 v4 v5 v6 (v7 + 1)
def f_X6_alikeTo_38 (x : Nat) (h : XH) : Nat → Nat → Int32 → Int32 → Int32 → Int32 → Int32 → Int32 → Option Int32
  | 0, _, _, _, _, _, _, _ => none
  | n + 1, v1, v2, v3, v4, v5, v6, v7 => if v6 ≤ v7 then some (-1) else if v7 = v2 then f_X6_alikeTo_94 (f_X6_alikeTo_38 x h n) x h v1 v2 v3 v4 v5 v6 v7 else Option.bind (f_X7_lookOf (x + 9) h v4 ((h.1 (v1 + 1) 1) + v7)) (fun v_3 => if v_3 = v5 then if (f_X2_cardWith v1 h v7 v3) = (-1) then f_X6_alikeTo_94 (f_X6_alikeTo_38 x h n) x h v1 v2 v3 v4 v5 v6 v7 else some (f_X2_cardWith v1 h v7 v3) else f_X6_alikeTo_94 (f_X6_alikeTo_38 x h n) x h v1 v2 v3 v4 v5 v6 v7)
def f_X6_alikeTo (x : Nat) (h : XH) (v1 : Nat) (v2 : Int32) (v3 : Int32) : Option Int32 := Option.bind (f_X7_lookOf (x + 9) h (h.1 (v1 + 1) 0) ((h.1 (v1 + 1) 1) + v2)) (fun v_1 => Option.bind (f_X2_places v1 h) (fun v_2 => f_X6_alikeTo_38 x h x_FU v1 v2 v3 (h.1 (v1 + 1) 0) v_1 v_2 0))
set_option maxRecDepth 20000 in
theorem B_X6_alikeTo_94 {p : Program} {l : Launch} {e : Env} {s : State} {m : MethodId} {args : Array Value} {below : List Frame} {meth : Method} {c : Code} {O : XO} {K : XK} {h : XH} {r : Int32}  {k38 : Nat → Int32 → Int32 → Int32 → Int32 → Int32 → Int32 → Option Int32} (C : x_C p s m args meth c O cX6_alikeTo 8 RX6 (some .int)) (hk38 : ∀ (ls : Array Slot) (H : Heap) (locs : List Loc) (v1 : Nat) (v2 : Int32) (v3 : Int32) (v4 : Int32) (v5 : Int32) (v6 : Int32) (v7 : Int32) (kv1 : K v1 = (3, 0)), lv_has ls 8 [(0, .ref (oX O + 49)), (1, .ref v1), (2, .int v2), (3, .int v3), (4, .int v4), (5, .int v5), (6, .int v6), (7, .int v7)] → x_R O K h H → va_S (oA O) s.heap H locs → k38 v1 v2 v3 v4 v5 v6 v7 = some r → W p l e (x_rm 2 44) s m args below meth c H locs 0 0 (MQ below (x_Qc O K h (some (.int r))) args s 0 0 (oA O)) (F0 m 38 ls []))  (ls : Array Slot) (H : Heap) (locs : List Loc) (v1 : Nat) (v2 : Int32) (v3 : Int32) (v4 : Int32) (v5 : Int32) (v6 : Int32) (v7 : Int32) (kv1 : K v1 = (3, 0)) (hl : lv_has ls 8 [(0, .ref (oX O + 49)), (1, .ref v1), (2, .int v2), (3, .int v3), (4, .int v4), (5, .int v5), (6, .int v6), (7, .int v7)]) (hR : x_R O K h H) (hS : va_S (oA O) s.heap H locs) (hf : f_X6_alikeTo_94 k38 (oX O) h v1 v2 v3 v4 v5 v6 v7 = some r) : W p l e (x_rm 2 44) s m args below meth c H locs 0 0 (MQ below (x_Qc O K h (some (.int r))) args s 0 0 (oA O)) (F0 m 94 ls []) := by
  have hx := C.1
  have hb := C.2.1
  rw [f_X6_alikeTo_94] at hf
  refine lv_iinc (k := 7) (v := _ + 1) (lv' := [(7, _), (0, _), (1, _), (2, _), (3, _), (4, _), (5, _), (6, _)]) hx hb dX6_alikeTo_94 hl rfl (x_inc 1 1 rfl _) (Nat.le_of_ble_eq_true rfl) rfl (fun ls hl => ?_)
  refine lv_goto (tgt := 38) hx hb dX6_alikeTo_97 rfl ?_
  exact hk38 ls _ _ _ _ _ _ _ _ _ kv1 (lv_sub hl [1, 2, 3, 4, 5, 6, 7, 0] rfl) hR hS hf
set_option maxRecDepth 20000 in
theorem B_X6_alikeTo_38 {p : Program} {l : Launch} {e : Env} {s : State} {m : MethodId} {args : Array Value} {below : List Frame} {meth : Method} {c : Code} {O : XO} {K : XK} {h : XH} {r : Int32}   (C : x_C p s m args meth c O cX6_alikeTo 8 RX6 (some .int))   : ∀ (n : Nat) (ls : Array Slot) (H : Heap) (locs : List Loc) (v1 : Nat) (v2 : Int32) (v3 : Int32) (v4 : Int32) (v5 : Int32) (v6 : Int32) (v7 : Int32) (kv1 : K v1 = (3, 0)) (hl : lv_has ls 8 [(0, .ref (oX O + 49)), (1, .ref v1), (2, .int v2), (3, .int v3), (4, .int v4), (5, .int v5), (6, .int v6), (7, .int v7)]) (hR : x_R O K h H) (hS : va_S (oA O) s.heap H locs) (hf : f_X6_alikeTo_38 (oX O) h n v1 v2 v3 v4 v5 v6 v7 = some r), W p l e (x_rm 2 44) s m args below meth c H locs 0 0 (MQ below (x_Qc O K h (some (.int r))) args s 0 0 (oA O)) (F0 m 38 ls []) := by
  have hx := C.1
  have hb := C.2.1
  intro n
  induction n with
  | zero =>
    intro ls H locs v1 v2 v3 v4 v5 v6 v7 kv1 hl hR hS hf
    rw [f_X6_alikeTo_38] at hf
    cases hf
  | succ n ih =>
    intro ls H locs v1 v2 v3 v4 v5 v6 v7 kv1 hl hR hS hf
    rw [f_X6_alikeTo_38] at hf
    refine lv_iload hx hb dX6_alikeTo_38 (lv_at hl 7 rfl) ?_
    refine lv_iload hx hb dX6_alikeTo_40 (lv_at hl 6 rfl) ?_
    refine lv_icmp_ge (tgt := 100) hx hb dX6_alikeTo_42 rfl (fun hc => ?_) (fun hc => ?_)
    · have hf := x_ip hc hf
      refine lv_iconst (v := (-1)) hx hb dX6_alikeTo_100 rfl ?_
      cases hf
      exact x_iret C hR hS dX6_alikeTo_101
    · have hf := x_in hc hf
      refine lv_iload hx hb dX6_alikeTo_45 (lv_at hl 7 rfl) ?_
      refine lv_iload_n hx hb dX6_alikeTo_47 rfl (lv_at hl 2 rfl) ?_
      refine lv_icmp_eq (tgt := 94) hx hb dX6_alikeTo_48 rfl (fun hc => ?_) (fun hc => ?_)
      · have hf := x_ip hc hf
        exact B_X6_alikeTo_94  C ih  ls _ _ _ _ _ _ _ _ _ kv1 (lv_sub hl [0, 1, 2, 3, 4, 5, 6, 7] rfl) hR hS hf
      · have hf := x_in hc hf
        refine lv_aload_n hx hb dX6_alikeTo_51 rfl (lv_at hl 0 rfl) ?_
        refine gf_6_0 C hR (x_k hR 49 rfl) tw_409 dX6_alikeTo_52 ?_
        refine lv_iload hx hb dX6_alikeTo_55 (lv_at hl 4 rfl) ?_
        refine lv_aload_n hx hb dX6_alikeTo_57 rfl (lv_at hl 1 rfl) ?_
        refine gf_2_4 C hR kv1 tw_265 dX6_alikeTo_58 ?_
        refine gf_4_1 C hR (kf_2_1 hR kv1) tw_215 dX6_alikeTo_61 ?_
        refine lv_iload hx hb dX6_alikeTo_64 (lv_at hl 7 rfl) ?_
        refine lv_iadd hx hb dX6_alikeTo_66 ?_
        obtain ⟨v_3, ev_3, hf⟩ := x_bd hf
        refine x_cVi2 C hR hS (S_X7_lookOf (x_k hR 9 rfl) ev_3) (x_k hR 9 rfl) (by decide) rfl mf_X7_lookOf tw_1185 (Nat.le_of_ble_eq_true rfl) (Nat.le_of_ble_eq_true rfl) hl.1 (Nat.le_of_ble_eq_true rfl) dX6_alikeTo_67 ⟨Nat.le_refl _, Nat.le_refl _⟩ (fun H locs hR hS => ?_)
        refine lv_iload hx hb dX6_alikeTo_70 (lv_at hl 5 rfl) ?_
        refine lv_icmp_ne (tgt := 94) hx hb dX6_alikeTo_72 rfl (fun hc => ?_) (fun hc => ?_)
        · have hf := x_in hc hf
          exact B_X6_alikeTo_94  C ih  ls _ _ _ _ _ _ _ _ _ kv1 (lv_sub hl [0, 1, 2, 3, 4, 5, 6, 7] rfl) hR hS hf
        · have hf := x_ip hc hf
          refine lv_aload_n hx hb dX6_alikeTo_75 rfl (lv_at hl 1 rfl) ?_
          refine lv_iload hx hb dX6_alikeTo_76 (lv_at hl 7 rfl) ?_
          refine lv_iload_n hx hb dX6_alikeTo_78 rfl (lv_at hl 3 rfl) ?_
          refine x_cVi2 C hR hS (S_X2_cardWith kv1 rfl) kv1 (by decide) rfl mf_X2_cardWith tw_1172 (Nat.le_of_ble_eq_true rfl) (Nat.le_of_ble_eq_true rfl) hl.1 (Nat.le_of_ble_eq_true rfl) dX6_alikeTo_79 ⟨Nat.le_refl _, Nat.le_refl _⟩ (fun H locs hR hS => ?_)
          refine lv_iconst (v := (-1)) hx hb dX6_alikeTo_82 rfl ?_
          refine lv_icmp_eq (tgt := 94) hx hb dX6_alikeTo_83 rfl (fun hc => ?_) (fun hc => ?_)
          · have hf := x_ip hc hf
            exact B_X6_alikeTo_94  C ih  ls _ _ _ _ _ _ _ _ _ kv1 (lv_sub hl [0, 1, 2, 3, 4, 5, 6, 7] rfl) hR hS hf
          · have hf := x_in hc hf
            refine lv_aload_n hx hb dX6_alikeTo_86 rfl (lv_at hl 1 rfl) ?_
            refine lv_iload hx hb dX6_alikeTo_87 (lv_at hl 7 rfl) ?_
            refine lv_iload_n hx hb dX6_alikeTo_89 rfl (lv_at hl 3 rfl) ?_
            refine x_cVi2 C hR hS (S_X2_cardWith kv1 rfl) kv1 (by decide) rfl mf_X2_cardWith tw_1172 (Nat.le_of_ble_eq_true rfl) (Nat.le_of_ble_eq_true rfl) hl.1 (Nat.le_of_ble_eq_true rfl) dX6_alikeTo_90 ⟨Nat.le_refl _, Nat.le_refl _⟩ (fun H locs hR hS => ?_)
            cases hf
            exact x_iret C hR hS dX6_alikeTo_93
set_option maxRecDepth 20000 in
theorem S_X6_alikeTo {l : Launch} {O : XO} {K : XK} {h : XH} {v1 : Nat} {v2 : Int32} {v3 : Int32}  {r : Int32} (k1 : K v1 = (3, 0)) (hf : f_X6_alikeTo (oX O) h v1 v2 v3 = some r) : x_M l O K yX6_alikeTo cX6_alikeTo 8 (some .int) 2 44 h [.ref (oX O + 49), .ref v1, .int v2, .int v3] (some (.int r)) h := by
  refine x_enter (by decide) (Nat.le_of_ble_eq_true rfl) (fun p e s m args below meth c C hR ls hl => ?_)
  have hS : va_S (oA O) s.heap s.heap [] := va_S.rf
  have hx := C.1
  have hb := C.2.1
  have hl : lv_has ls 8 [(0, .ref (oX O + 49)), (1, .ref v1), (2, .int v2), (3, .int v3)] := hl
  rw [f_X6_alikeTo] at hf
  refine lv_aload_n hx hb dX6_alikeTo_0 rfl (lv_at hl 1 rfl) ?_
  refine gf_2_4 C hR k1 tw_265 dX6_alikeTo_1 ?_
  refine gf_4_0 C hR (kf_2_1 hR k1) tw_211 dX6_alikeTo_4 ?_
  refine lv_istore (lv' := [(4, _), (0, _), (1, _), (2, _), (3, _)]) hx hb dX6_alikeTo_7 hl (Nat.le_of_ble_eq_true rfl) rfl (fun ls hl => ?_)
  refine lv_aload_n hx hb dX6_alikeTo_9 rfl (lv_at hl 1 rfl) ?_
  refine gf_6_0 C hR (x_k hR 49 rfl) tw_409 dX6_alikeTo_10 ?_
  refine lv_iload hx hb dX6_alikeTo_13 (lv_at hl 0 rfl) ?_
  refine lv_aload_n hx hb dX6_alikeTo_15 rfl (lv_at hl 2 rfl) ?_
  refine gf_2_4 C hR k1 tw_265 dX6_alikeTo_16 ?_
  refine gf_4_1 C hR (kf_2_1 hR k1) tw_215 dX6_alikeTo_19 ?_
  refine lv_iload_n hx hb dX6_alikeTo_22 rfl (lv_at hl 3 rfl) ?_
  refine lv_iadd hx hb dX6_alikeTo_23 ?_
  obtain ⟨v_1, ev_1, hf⟩ := x_bd hf
  refine x_cVi2 C hR hS (S_X7_lookOf (x_k hR 9 rfl) ev_1) (x_k hR 9 rfl) (by decide) rfl mf_X7_lookOf tw_1185 (Nat.le_of_ble_eq_true rfl) (Nat.le_of_ble_eq_true rfl) hl.1 (Nat.le_of_ble_eq_true rfl) dX6_alikeTo_24 ⟨Nat.le_refl _, Nat.le_refl _⟩ (fun H locs hR hS => ?_)
  refine lv_istore (lv' := [(5, _), (4, _), (0, _), (1, _), (2, _), (3, _)]) hx hb dX6_alikeTo_27 hl (Nat.le_of_ble_eq_true rfl) rfl (fun ls hl => ?_)
  refine lv_aload_n hx hb dX6_alikeTo_29 rfl (lv_at hl 3 rfl) ?_
  obtain ⟨v_2, ev_2, hf⟩ := x_bd hf
  refine x_cVi0 C hR hS (S_X2_places k1 ev_2) k1 (by decide) rfl mf_X2_places tw_1186 (Nat.le_of_ble_eq_true rfl) (Nat.le_of_ble_eq_true rfl) hl.1 (Nat.le_of_ble_eq_true rfl) dX6_alikeTo_30 ⟨Nat.le_refl _, Nat.le_refl _⟩ (fun H locs hR hS => ?_)
  refine lv_istore (lv' := [(6, _), (5, _), (4, _), (0, _), (1, _), (2, _), (3, _)]) hx hb dX6_alikeTo_33 hl (Nat.le_of_ble_eq_true rfl) rfl (fun ls hl => ?_)
  refine lv_iconst (v := 0) hx hb dX6_alikeTo_35 rfl ?_
  refine lv_istore (lv' := [(7, _), (6, _), (5, _), (4, _), (0, _), (1, _), (2, _), (3, _)]) hx hb dX6_alikeTo_36 hl (Nat.le_of_ble_eq_true rfl) rfl (fun ls hl => ?_)
  exact B_X6_alikeTo_38  C  x_FU ls _ _ _ _ _ _ _ _ _ k1 (lv_sub hl [4, 5, 6, 7, 3, 2, 1, 0] rfl) hR hS hf
