def f_X0_bestPair_25 (k12 : XH → Int32 → Int32 → Int32 → Option (Int32 × XH)) (K : XK) (x : Nat) : Nat → XH → Int32 → Int32 → Int32 → Int32 → Option (Int32 × XH)
  | 0, _, _, _, _, _ => none
  | n + 1, h, v2, v3, v4, v5 => if 52 ≤ v5 then k12 h v2 v3 (v4 + 1) else Option.bind (f_X0_gainAs x h v4 v5) (fun v_2 => Option.bind (f_X0_gainAs x h v5 v4) (fun v_3 => f_X0_bestPair_25 k12 K x n h (if (v_2 + v_3) ≤ v2 then v2 else (v_2 + v_3)) (if (v_2 + v_3) ≤ v2 then v3 else ((52 * v4) + v5)) v4 (v5 + 1)))
def f_X0_bestPair_12 (K : XK) (x : Nat) : Nat → XH → Int32 → Int32 → Int32 → Option (Int32 × XH)
  | 0, _, _, _, _ => none
  | n + 1, h, v2, v3, v4 => if 52 ≤ v4 then some (v3, h) else f_X0_bestPair_25 (f_X0_bestPair_12 K x n) K x x_FU h v2 v3 v4 (v4 + 1)
def f_X0_bestPair (K : XK) (x : Nat) (h : XH) (v1 : Option Nat) : Option (Int32 × XH) := Option.bind (f_X0_sumUp K x h v1) (fun h1 => f_X0_bestPair_12 K x x_FU h1 0 (-1) 0)
set_option maxRecDepth 20000 in
theorem B_X0_bestPair_25 {p : Program} {l : Launch} {e : Env} {s : State} {m : MethodId} {args : Array Value} {below : List Frame} {meth : Method} {c : Code} {O : XO} {K : XK} {r : Int32} {h' : XH}  {k12 : XH → Int32 → Int32 → Int32 → Option (Int32 × XH)} (C : x_C p s m args meth c O cX0_bestPair 7 RX0 (some .int)) (hk12 : ∀ (ls : Array Slot) (H : Heap) (locs : List Loc) (h : XH) (v2 : Int32) (v3 : Int32) (v4 : Int32), lv_has ls 7 [(0, .ref (oX O + 59)), (2, .int v2), (3, .int v3), (4, .int v4)] → x_R O K h H → va_S (oA O) s.heap H locs → k12 h v2 v3 v4 = some (r, h') → W p l e (x_rm 5 128) s m args below meth c H locs 0 0 (MQ below (x_Qc O K h' (some (.int r))) args s 0 0 (oA O)) (F0 m 12 ls []))  : ∀ (n : Nat) (ls : Array Slot) (H : Heap) (locs : List Loc) (h : XH) (v2 : Int32) (v3 : Int32) (v4 : Int32) (v5 : Int32) (hl : lv_has ls 7 [(0, .ref (oX O + 59)), (2, .int v2), (3, .int v3), (4, .int v4), (5, .int v5)]) (hR : x_R O K h H) (hS : va_S (oA O) s.heap H locs) (hf : f_X0_bestPair_25 k12 K (oX O) n h v2 v3 v4 v5 = some (r, h')), W p l e (x_rm 5 128) s m args below meth c H locs 0 0 (MQ below (x_Qc O K h' (some (.int r))) args s 0 0 (oA O)) (F0 m 25 ls []) := by
  have hx := C.1
  have hb := C.2.1
  intro n
  induction n with
  | zero =>
    intro ls H locs h v2 v3 v4 v5 hl hR hS hf
    rw [f_X0_bestPair_25] at hf
    cases hf
  | succ n ih =>
    intro ls H locs h v2 v3 v4 v5 hl hR hS hf
    rw [f_X0_bestPair_25] at hf
    refine lv_iload hx hb dX0_bestPair_25 (lv_at hl 4 rfl) ?_
    refine lv_bipush (v := 52) hx hb dX0_bestPair_27 rfl ?_
    refine lv_icmp_ge (tgt := 75) hx hb dX0_bestPair_29 rfl (fun hc => ?_) (fun hc => ?_)
    · have hf := x_ip hc hf
      refine lv_iinc (k := 3) (v := _ + 1) (lv' := [(4, _), (0, _), (2, _), (3, _), (5, _)]) hx hb dX0_bestPair_75 hl rfl (x_inc 1 1 rfl _) (Nat.le_of_ble_eq_true rfl) rfl (fun ls hl => ?_)
      refine lv_goto (tgt := 12) hx hb dX0_bestPair_78 rfl ?_
      exact hk12 ls _ _ h _ _ _  (lv_sub hl [1, 2, 3, 0] rfl) hR hS hf
    · have hf := x_in hc hf
      refine lv_aload_n hx hb dX0_bestPair_32 rfl (lv_at hl 0 rfl) ?_
      refine lv_iload hx hb dX0_bestPair_33 (lv_at hl 3 rfl) ?_
      refine lv_iload hx hb dX0_bestPair_35 (lv_at hl 4 rfl) ?_
      obtain ⟨v_2, ev_2, hf⟩ := x_bd hf
      refine x_cVi2 C hR hS (S_X0_gainAs  ev_2) (x_k hR 59 rfl) (by decide) rfl mf_X0_gainAs tw_1529 (Nat.le_of_ble_eq_true rfl) (Nat.le_of_ble_eq_true rfl) hl.1 (Nat.le_of_ble_eq_true rfl) dX0_bestPair_37 ⟨Nat.le_refl _, Nat.le_refl _⟩ (fun H locs hR hS => ?_)
      refine lv_aload_n hx hb dX0_bestPair_40 rfl (lv_at hl 0 rfl) ?_
      refine lv_iload hx hb dX0_bestPair_41 (lv_at hl 4 rfl) ?_
      refine lv_iload hx hb dX0_bestPair_43 (lv_at hl 3 rfl) ?_
      obtain ⟨v_3, ev_3, hf⟩ := x_bd hf
      refine x_cVi2 C hR hS (S_X0_gainAs  ev_3) (x_k hR 59 rfl) (by decide) rfl mf_X0_gainAs tw_1529 (Nat.le_of_ble_eq_true rfl) (Nat.le_of_ble_eq_true rfl) hl.1 (Nat.le_of_ble_eq_true rfl) dX0_bestPair_45 ⟨Nat.le_refl _, Nat.le_refl _⟩ (fun H locs hR hS => ?_)
      refine lv_iadd hx hb dX0_bestPair_48 ?_
      refine lv_istore (lv' := [(6, _), (0, _), (2, _), (3, _), (4, _), (5, _)]) hx hb dX0_bestPair_49 hl (Nat.le_of_ble_eq_true rfl) rfl (fun ls hl => ?_)
      refine lv_iload hx hb dX0_bestPair_51 (lv_at hl 0 rfl) ?_
      refine lv_iload_n hx hb dX0_bestPair_53 rfl (lv_at hl 2 rfl) ?_
      have kM4 : ∀ (ls : Array Slot) (H : Heap) (locs : List Loc), lv_has ls 7 [(0, .ref (oX O + 59)), (2, .int (if (v_2 + v_3) ≤ v2 then v2 else (v_2 + v_3))), (3, .int (if (v_2 + v_3) ≤ v2 then v3 else ((52 * v4) + v5))), (4, .int v4), (5, .int v5)] → x_R O K h H → va_S (oA O) s.heap H locs → W p l e (x_rm 5 128) s m args below meth c H locs 0 0 (MQ below (x_Qc O K h' (some (.int r))) args s 0 0 (oA O)) (F0 m 69 ls []) := by
        intro ls H locs hl hR hS
        refine lv_iinc (k := 4) (v := _ + 1) (lv' := [(5, _), (0, _), (2, _), (3, _), (4, _)]) hx hb dX0_bestPair_69 hl rfl (x_inc 1 1 rfl _) (Nat.le_of_ble_eq_true rfl) rfl (fun ls hl => ?_)
        refine lv_goto (tgt := 25) hx hb dX0_bestPair_72 rfl ?_
        exact ih ls _ _ h _ _ _ _  (lv_sub hl [1, 2, 3, 4, 0] rfl) hR hS hf
      refine lv_icmp_le (tgt := 69) hx hb dX0_bestPair_54 rfl (fun hc => ?_) (fun hc => ?_)
      · try simp only [if_pos hc] at kM4
        exact kM4 ls _ _ (lv_sub hl [1, 2, 3, 4, 5] rfl) hR hS
      · try simp only [if_neg hc] at kM4
        refine lv_iload hx hb dX0_bestPair_57 (lv_at hl 0 rfl) ?_
        refine lv_istore_n (lv' := [(2, _), (6, _), (0, _), (3, _), (4, _), (5, _)]) hx hb dX0_bestPair_59 rfl hl (Nat.le_of_ble_eq_true rfl) rfl (fun ls hl => ?_)
        refine lv_bipush (v := 52) hx hb dX0_bestPair_60 rfl ?_
        refine lv_iload hx hb dX0_bestPair_62 (lv_at hl 4 rfl) ?_
        refine lv_imul hx hb dX0_bestPair_64 ?_
        refine lv_iload hx hb dX0_bestPair_65 (lv_at hl 5 rfl) ?_
        refine lv_iadd hx hb dX0_bestPair_67 ?_
        refine lv_istore_n (lv' := [(3, _), (2, _), (6, _), (0, _), (4, _), (5, _)]) hx hb dX0_bestPair_68 rfl hl (Nat.le_of_ble_eq_true rfl) rfl (fun ls hl => ?_)
        exact kM4 ls _ _ (lv_sub hl [3, 1, 0, 4, 5] rfl) hR hS
set_option maxRecDepth 20000 in
theorem B_X0_bestPair_12 {p : Program} {l : Launch} {e : Env} {s : State} {m : MethodId} {args : Array Value} {below : List Frame} {meth : Method} {c : Code} {O : XO} {K : XK} {r : Int32} {h' : XH}   (C : x_C p s m args meth c O cX0_bestPair 7 RX0 (some .int))   : ∀ (n : Nat) (ls : Array Slot) (H : Heap) (locs : List Loc) (h : XH) (v2 : Int32) (v3 : Int32) (v4 : Int32) (hl : lv_has ls 7 [(0, .ref (oX O + 59)), (2, .int v2), (3, .int v3), (4, .int v4)]) (hR : x_R O K h H) (hS : va_S (oA O) s.heap H locs) (hf : f_X0_bestPair_12 K (oX O) n h v2 v3 v4 = some (r, h')), W p l e (x_rm 5 128) s m args below meth c H locs 0 0 (MQ below (x_Qc O K h' (some (.int r))) args s 0 0 (oA O)) (F0 m 12 ls []) := by
  have hx := C.1
  have hb := C.2.1
  intro n
  induction n with
  | zero =>
    intro ls H locs h v2 v3 v4 hl hR hS hf
    rw [f_X0_bestPair_12] at hf
    cases hf
  | succ n ih =>
    intro ls H locs h v2 v3 v4 hl hR hS hf
    rw [f_X0_bestPair_12] at hf
    refine lv_iload hx hb dX0_bestPair_12 (lv_at hl 3 rfl) ?_
    refine lv_bipush (v := 52) hx hb dX0_bestPair_14 rfl ?_
    refine lv_icmp_ge (tgt := 81) hx hb dX0_bestPair_16 rfl (fun hc => ?_) (fun hc => ?_)
    · have hf := x_ip hc hf
      refine lv_iload_n hx hb dX0_bestPair_81 rfl (lv_at hl 2 rfl) ?_
      cases hf
      exact x_iret C hR hS dX0_bestPair_82
    · have hf := x_in hc hf
      refine lv_iload hx hb dX0_bestPair_19 (lv_at hl 3 rfl) ?_
      refine lv_iconst (v := 1) hx hb dX0_bestPair_21 rfl ?_
      refine lv_iadd hx hb dX0_bestPair_22 ?_
      refine lv_istore (lv' := [(5, _), (0, _), (2, _), (3, _), (4, _)]) hx hb dX0_bestPair_23 hl (Nat.le_of_ble_eq_true rfl) rfl (fun ls hl => ?_)
      exact B_X0_bestPair_25  C ih x_FU ls _ _ h _ _ _ _  (lv_sub hl [1, 2, 3, 4, 0] rfl) hR hS hf
set_option maxRecDepth 20000 in
theorem S_X0_bestPair {l : Launch} {O : XO} {K : XK} {h : XH} {v1 : Option Nat}  {r : Int32} {h' : XH} (k1 : ∀ r, v1 = some r → K r = (11, 0)) (hf : f_X0_bestPair K (oX O) h v1 = some (r, h')) : x_M l O K yX0_bestPair cX0_bestPair 7 (some .int) 5 128 h [.ref (oX O + 59), va_rf v1] (some (.int r)) h' := by
  refine x_enter (by decide) (by cases v1 <;> exact Nat.le_of_ble_eq_true rfl) (fun p e s m args below meth c C hR ls hl => ?_)
  have hS : va_S (oA O) s.heap s.heap [] := va_S.rf
  have hx := C.1
  have hb := C.2.1
  have hl : lv_has ls 7 [(0, .ref (oX O + 59)), (1, va_rf v1)] := by cases v1 <;> exact hl
  rw [f_X0_bestPair] at hf
  refine lv_aload_n hx hb dX0_bestPair_0 rfl (lv_at hl 0 rfl) ?_
  refine x_aloadq_n hx hb dX0_bestPair_1 rfl (lv_at hl 1 rfl) ?_
  obtain ⟨h1, eh1, hf⟩ := x_bd hf
  refine x_cVv1 C hR hS (S_X0_sumUp k1 eh1) (x_k hR 59 rfl) (by decide) rfl mf_X0_sumUp tw_1521 (Nat.le_of_ble_eq_true rfl) (Nat.le_of_ble_eq_true rfl) hl.1 (Nat.le_of_ble_eq_true rfl) dX0_bestPair_2 ⟨Nat.le_refl _, Nat.le_refl _⟩ (fun H locs hR hS => ?_)
  refine lv_iconst (v := 0) hx hb dX0_bestPair_5 rfl ?_
  refine lv_istore_n (lv' := [(2, .int 0), (0, .ref (oX O + 59)), (1, va_rf v1)]) hx hb dX0_bestPair_6 rfl hl (Nat.le_of_ble_eq_true rfl) (by cases v1 <;> rfl) (fun ls hl => ?_)
  refine lv_iconst (v := (-1)) hx hb dX0_bestPair_7 rfl ?_
  refine lv_istore_n (lv' := [(3, _), (2, _), (0, _), (1, _)]) hx hb dX0_bestPair_8 rfl hl (Nat.le_of_ble_eq_true rfl) rfl (fun ls hl => ?_)
  refine lv_iconst (v := 0) hx hb dX0_bestPair_9 rfl ?_
  refine lv_istore (lv' := [(4, _), (3, _), (2, _), (0, _), (1, _)]) hx hb dX0_bestPair_10 hl (Nat.le_of_ble_eq_true rfl) rfl (fun ls hl => ?_)
  exact B_X0_bestPair_12  C  x_FU ls _ _ h1 _ _ _  (lv_sub hl [3, 2, 1, 0] rfl) hR hS hf
def f_X5_sumAt (K : XK) (x : Nat) (h : XH) (v1 : Option Nat) (v2 : Int32) (v3 : Int32) : Option (Int32 × XH) := if x_b v2 8 = true then Option.bind (f_X5_sumBy K x h v1 v2 (((x + 13) + 6 + 3 * v2.toNatClampNeg) + 1) v3) (fun q2 => some (q2.1, q2.2)) else none
set_option maxRecDepth 20000 in
theorem S_X5_sumAt {l : Launch} {O : XO} {K : XK} {h : XH} {v1 : Option Nat} {v2 : Int32} {v3 : Int32}  {r : Int32} {h' : XH} (k1 : ∀ r, v1 = some r → K r = (11, 0)) (hf : f_X5_sumAt K (oX O) h v1 v2 v3 = some (r, h')) : x_M l O K yX5_sumAt cX5_sumAt 4 (some .int) 5 130 h [.ref (oX O + 46), va_rf v1, .int v2, .int v3] (some (.int r)) h' := by
  refine x_enter (by decide) (by cases v1 <;> exact Nat.le_of_ble_eq_true rfl) (fun p e s m args below meth c C hR ls hl => ?_)
  have hS : va_S (oA O) s.heap s.heap [] := va_S.rf
  have hx := C.1
  have hb := C.2.1
  have hl : lv_has ls 4 [(0, .ref (oX O + 46)), (1, va_rf v1), (2, .int v2), (3, .int v3)] := by cases v1 <;> exact hl
  rw [f_X5_sumAt] at hf
  refine lv_aload_n hx hb dX5_sumAt_0 rfl (lv_at hl 0 rfl) ?_
  refine x_aloadq_n hx hb dX5_sumAt_1 rfl (lv_at hl 1 rfl) ?_
  refine lv_iload_n hx hb dX5_sumAt_2 rfl (lv_at hl 2 rfl) ?_
  refine lv_aload_n hx hb dX5_sumAt_3 rfl (lv_at hl 0 rfl) ?_
  refine gf_5_0 C hR (x_k hR 46 rfl) tw_390 dX5_sumAt_4 ?_
  refine gf_7_5 C hR (x_k hR 9 rfl) tw_302 dX5_sumAt_7 ?_
  refine lv_iload_n hx hb dX5_sumAt_10 rfl (lv_at hl 2 rfl) ?_
  obtain ⟨g1, hf⟩ := x_gd hf
  refine x_paald C hR (x_k1 (x_k hR 13 rfl)) (x_k2 (x_k hR 13 rfl) g1) dX5_sumAt_11 ?_
  refine gf_2_4 C hR (x_kP hR (x_k hR 13 rfl) g1) tw_263 dX5_sumAt_12 ?_
  refine lv_iload_n hx hb dX5_sumAt_15 rfl (lv_at hl 3 rfl) ?_
  obtain ⟨q2, eq2, hf⟩ := x_bd hf
  refine x_cVi4 C hR hS (S_X5_sumBy k1 (kf_2_1 hR (x_kP hR (x_k hR 13 rfl) g1)) eq2) (x_k hR 46 rfl) (by decide) rfl mf_X5_sumBy tw_1149 (Nat.le_of_ble_eq_true rfl) (Nat.le_of_ble_eq_true rfl) hl.1 (Nat.le_of_ble_eq_true rfl) dX5_sumAt_16 ⟨Nat.le_refl _, Nat.le_refl _⟩ (fun H locs hR hS => ?_)
  cases hf
  exact x_iret C hR hS dX5_sumAt_19
def f_X5_sumTouched_165 (K : XK) (x : Nat) (h : XH) (v7 : Int32) : Option (Int32 × XH) := if x_b v7 49 = true then some ((h.1 (x + 48) v7.toNatClampNeg), h) else none
def f_X5_sumTouched_138 (K : XK) (x : Nat) (h : XH) (v1 : Option Nat) (v2 : Int32) (v4 : Int32) (v7 : Int32) : Option (Int32 × XH) := Option.bind (f_X5_sumBy K x h v1 v2 (x + 47) ((h.1 (x + 9) 7) + v4)) (fun q7 => if x_b v7 49 = true then x_let (x_i q7.2 (x + 48) v7.toNatClampNeg q7.1) (fun h9 => f_X5_sumTouched_165 K x h9 v7) else none)
def f_X5_sumTouched_6 (K : XK) (x : Nat) : Nat → XH → Option Nat → Int32 → Int32 → Int32 → Int32 → Int32 → Option (Int32 × XH)
  | 0, _, _, _, _, _, _, _ => none
  | n + 1, h, v1, v2, v3, v4, v5, v6 => if (h.1 (x + 9) 12) ≤ v6 then x_let ((f_J6_bitCount_0f7a4 h v3) : Int32) (fun t1 => if x_b ((v5 * 7) + t1) 49 = true then if (h.1 (x + 48) ((v5 * 7) + t1).toNatClampNeg) = (-1) then if x_b v2 8 = true then x_let (f_X4_copyFrom (x + 47) h (((x + 13) + 6 + 3 * v2.toNatClampNeg) + 1)) (fun h5 => x_let (x_i h5 (x + 47) 4 ((h5.1 (x + 47) 4) + t1)) (fun h6 => if v5 ≤ 0 then f_X5_sumTouched_138 K x h6 v1 v2 v4 ((v5 * 7) + t1) else if x_b (v5 - 1) 6 = true then x_let (f_X4_touchFrom (x + 47) h6 ((h6.1 (x + 9) 7) + (h6.1 (x + 16) (v5 - 1).toNatClampNeg)) 0) (fun h11 => f_X5_sumTouched_138 K x h11 v1 v2 v4 ((v5 * 7) + t1)) else none)) else none else f_X5_sumTouched_165 K x h ((v5 * 7) + t1) else none) else x_let ((if ((x_shr v3 v6) &&& 1) = 1 then (v6 + 1) else v5) : Int32) (fun t13 => f_X5_sumTouched_6 K x n h v1 v2 v3 v4 t13 (v6 + 1))
def f_X5_sumTouched (K : XK) (x : Nat) (h : XH) (v1 : Option Nat) (v2 : Int32) (v3 : Int32) (v4 : Int32) : Option (Int32 × XH) := f_X5_sumTouched_6 K x x_FU h v1 v2 v3 v4 0 0
set_option maxRecDepth 20000 in
theorem B_X5_sumTouched_165 {p : Program} {l : Launch} {e : Env} {s : State} {m : MethodId} {args : Array Value} {below : List Frame} {meth : Method} {c : Code} {O : XO} {K : XK} {r : Int32} {h' : XH}   (C : x_C p s m args meth c O cX5_sumTouched 8 RX5 (some .int))   (ls : Array Slot) (H : Heap) (locs : List Loc) (h : XH) (v7 : Int32) (hl : lv_has ls 8 [(0, .ref (oX O + 46)), (7, .int v7)]) (hR : x_R O K h H) (hS : va_S (oA O) s.heap H locs) (hf : f_X5_sumTouched_165 K (oX O) h v7 = some (r, h')) : W p l e (x_rm 5 130) s m args below meth c H locs 0 0 (MQ below (x_Qc O K h' (some (.int r))) args s 0 0 (oA O)) (F0 m 165 ls []) := by
  have hx := C.1
  have hb := C.2.1
  rw [f_X5_sumTouched_165] at hf
  refine lv_aload_n hx hb dX5_sumTouched_165 rfl (lv_at hl 0 rfl) ?_
  refine gf_5_3 C hR (x_k hR 46 rfl) tw_393 dX5_sumTouched_166 ?_
  refine lv_iload hx hb dX5_sumTouched_169 (lv_at hl 1 rfl) ?_
  obtain ⟨g3, hf⟩ := x_gd hf
  refine x_iald C hR (x_k1 (x_k hR 48 rfl)) (x_k2 (x_k hR 48 rfl) g3) dX5_sumTouched_171 ?_
  cases hf
  exact x_iret C hR hS dX5_sumTouched_172
set_option maxRecDepth 20000 in
theorem B_X5_sumTouched_138 {p : Program} {l : Launch} {e : Env} {s : State} {m : MethodId} {args : Array Value} {below : List Frame} {meth : Method} {c : Code} {O : XO} {K : XK} {r : Int32} {h' : XH}   (C : x_C p s m args meth c O cX5_sumTouched 8 RX5 (some .int))   (ls : Array Slot) (H : Heap) (locs : List Loc) (h : XH) (v1 : Option Nat) (v2 : Int32) (v4 : Int32) (v7 : Int32) (kv1 : ∀ r, v1 = some r → K r = (11, 0)) (hl : lv_has ls 8 [(0, .ref (oX O + 46)), (1, va_rf v1), (2, .int v2), (4, .int v4), (7, .int v7)]) (hR : x_R O K h H) (hS : va_S (oA O) s.heap H locs) (hf : f_X5_sumTouched_138 K (oX O) h v1 v2 v4 v7 = some (r, h')) : W p l e (x_rm 5 130) s m args below meth c H locs 0 0 (MQ below (x_Qc O K h' (some (.int r))) args s 0 0 (oA O)) (F0 m 138 ls []) := by
  have hx := C.1
  have hb := C.2.1
  rw [f_X5_sumTouched_138] at hf
  refine lv_aload_n hx hb dX5_sumTouched_138 rfl (lv_at hl 0 rfl) ?_
  refine gf_5_3 C hR (x_k hR 46 rfl) tw_393 dX5_sumTouched_139 ?_
  refine lv_iload hx hb dX5_sumTouched_142 (lv_at hl 4 rfl) ?_
  refine lv_aload_n hx hb dX5_sumTouched_144 rfl (lv_at hl 0 rfl) ?_
  refine x_aloadq_n hx hb dX5_sumTouched_145 rfl (lv_at hl 1 rfl) ?_
  refine lv_iload_n hx hb dX5_sumTouched_146 rfl (lv_at hl 2 rfl) ?_
  refine lv_aload_n hx hb dX5_sumTouched_147 rfl (lv_at hl 0 rfl) ?_
  refine gf_5_2 C hR (x_k hR 46 rfl) tw_392 dX5_sumTouched_148 ?_
  refine lv_aload_n hx hb dX5_sumTouched_151 rfl (lv_at hl 0 rfl) ?_
  refine gf_5_0 C hR (x_k hR 46 rfl) tw_390 dX5_sumTouched_152 ?_
  refine gf_7_7 C hR (x_k hR 9 rfl) tw_310 dX5_sumTouched_155 ?_
  refine lv_iload hx hb dX5_sumTouched_158 (lv_at hl 3 rfl) ?_
  refine lv_iadd hx hb dX5_sumTouched_160 ?_
  obtain ⟨q7, eq7, hf⟩ := x_bd hf
  refine x_cVi4 C hR hS (S_X5_sumBy kv1 (x_k hR 47 rfl) eq7) (x_k hR 46 rfl) (by decide) rfl mf_X5_sumBy tw_1149 (Nat.le_of_ble_eq_true rfl) (Nat.le_of_ble_eq_true rfl) hl.1 (Nat.le_of_ble_eq_true rfl) dX5_sumTouched_161 ⟨Nat.le_refl _, Nat.le_refl _⟩ (fun H locs hR hS => ?_)
  obtain ⟨g8, hf⟩ := x_gd hf
  obtain ⟨h9, eh9, hf⟩ := x_lt hf
  refine x_iast C hR hS (x_k1 (x_k hR 48 rfl)) (x_k2 (x_k hR 48 rfl) g8) dX5_sumTouched_164 (fun H locs hR hS => ?_)
  rw [← eh9] at hR
  exact B_X5_sumTouched_165  C   ls _ _ h9 _  (lv_sub hl [0, 4] rfl) hR hS hf
set_option maxRecDepth 20000 in
theorem B_X5_sumTouched_6 {p : Program} {l : Launch} {e : Env} {s : State} {m : MethodId} {args : Array Value} {below : List Frame} {meth : Method} {c : Code} {O : XO} {K : XK} {r : Int32} {h' : XH}   (C : x_C p s m args meth c O cX5_sumTouched 8 RX5 (some .int))   : ∀ (n : Nat) (ls : Array Slot) (H : Heap) (locs : List Loc) (h : XH) (v1 : Option Nat) (v2 : Int32) (v3 : Int32) (v4 : Int32) (v5 : Int32) (v6 : Int32) (kv1 : ∀ r, v1 = some r → K r = (11, 0)) (hl : lv_has ls 8 [(0, .ref (oX O + 46)), (1, va_rf v1), (2, .int v2), (3, .int v3), (4, .int v4), (5, .int v5), (6, .int v6)]) (hR : x_R O K h H) (hS : va_S (oA O) s.heap H locs) (hf : f_X5_sumTouched_6 K (oX O) n h v1 v2 v3 v4 v5 v6 = some (r, h')), W p l e (x_rm 5 130) s m args below meth c H locs 0 0 (MQ below (x_Qc O K h' (some (.int r))) args s 0 0 (oA O)) (F0 m 6 ls []) := by
  have hx := C.1
  have hb := C.2.1
  intro n
  induction n with
  | zero =>
    intro ls H locs h v1 v2 v3 v4 v5 v6 kv1 hl hR hS hf
    rw [f_X5_sumTouched_6] at hf
    cases hf
  | succ n ih =>
    intro ls H locs h v1 v2 v3 v4 v5 v6 kv1 hl hR hS hf
    rw [f_X5_sumTouched_6] at hf
    refine lv_iload hx hb dX5_sumTouched_6 (lv_at hl 6 rfl) ?_
    refine lv_aload_n hx hb dX5_sumTouched_8 rfl (lv_at hl 0 rfl) ?_
    refine gf_5_0 C hR (x_k hR 46 rfl) tw_390 dX5_sumTouched_9 ?_
    refine gf_7_12 C hR (x_k hR 9 rfl) tw_322 dX5_sumTouched_12 ?_
    refine lv_icmp_ge (tgt := 45) hx hb dX5_sumTouched_15 rfl (fun hc => ?_) (fun hc => ?_)
    · have hf := x_ip hc hf
      refine lv_iload_n hx hb dX5_sumTouched_45 rfl (lv_at hl 3 rfl) ?_
      refine x_cSi1 C hR hS (S_J6_bitCount_0f7a4  rfl) mf_J6_bitCount_0f7a4 tw_1372 (Nat.le_of_ble_eq_true rfl) (Nat.le_of_ble_eq_true rfl) hl.1 (Nat.le_of_ble_eq_true rfl) dX5_sumTouched_46 ⟨Nat.le_refl _, Nat.le_refl _⟩ (fun H locs hR hS => ?_)
      obtain ⟨t1, et1, hf⟩ := x_lt hf
      refine x_nmi et1 ?_
      refine lv_istore (lv' := [(6, _), (0, _), (1, _), (2, _), (3, _), (4, _), (5, _)]) hx hb dX5_sumTouched_49 hl (Nat.le_of_ble_eq_true rfl) rfl (fun ls hl => ?_)
      refine lv_iload hx hb dX5_sumTouched_51 (lv_at hl 6 rfl) ?_
      refine lv_bipush (v := 7) hx hb dX5_sumTouched_53 rfl ?_
      refine lv_imul hx hb dX5_sumTouched_55 ?_
      refine lv_iload hx hb dX5_sumTouched_56 (lv_at hl 0 rfl) ?_
      refine lv_iadd hx hb dX5_sumTouched_58 ?_
      refine lv_istore (lv' := [(7, _), (6, _), (0, _), (1, _), (2, _), (3, _), (4, _), (5, _)]) hx hb dX5_sumTouched_59 hl (Nat.le_of_ble_eq_true rfl) rfl (fun ls hl => ?_)
      refine lv_aload_n hx hb dX5_sumTouched_61 rfl (lv_at hl 2 rfl) ?_
      refine gf_5_3 C hR (x_k hR 46 rfl) tw_393 dX5_sumTouched_62 ?_
      refine lv_iload hx hb dX5_sumTouched_65 (lv_at hl 0 rfl) ?_
      obtain ⟨g2, hf⟩ := x_gd hf
      refine x_iald C hR (x_k1 (x_k hR 48 rfl)) (x_k2 (x_k hR 48 rfl) g2) dX5_sumTouched_67 ?_
      refine lv_iconst (v := (-1)) hx hb dX5_sumTouched_68 rfl ?_
      refine lv_icmp_ne (tgt := 165) hx hb dX5_sumTouched_69 rfl (fun hc => ?_) (fun hc => ?_)
      · have hf := x_in hc hf
        exact B_X5_sumTouched_165  C   ls _ _ h _  (lv_sub hl [2, 0] rfl) hR hS hf
      · have hf := x_ip hc hf
        refine lv_aload_n hx hb dX5_sumTouched_72 rfl (lv_at hl 2 rfl) ?_
        refine gf_5_2 C hR (x_k hR 46 rfl) tw_392 dX5_sumTouched_73 ?_
        refine lv_aload_n hx hb dX5_sumTouched_76 rfl (lv_at hl 2 rfl) ?_
        refine gf_5_0 C hR (x_k hR 46 rfl) tw_390 dX5_sumTouched_77 ?_
        refine gf_7_5 C hR (x_k hR 9 rfl) tw_302 dX5_sumTouched_80 ?_
        refine lv_iload_n hx hb dX5_sumTouched_83 rfl (lv_at hl 4 rfl) ?_
        obtain ⟨g4, hf⟩ := x_gd hf
        refine x_paald C hR (x_k1 (x_k hR 13 rfl)) (x_k2 (x_k hR 13 rfl) g4) dX5_sumTouched_84 ?_
        refine gf_2_4 C hR (x_kP hR (x_k hR 13 rfl) g4) tw_263 dX5_sumTouched_85 ?_
        obtain ⟨h5, eh5, hf⟩ := x_lt hf
        refine x_cVv1 C hR hS (S_X4_copyFrom (x_k hR 47 rfl) (kf_2_1 hR (x_kP hR (x_k hR 13 rfl) g4)) eh5.symm) (x_k hR 47 rfl) (by decide) rfl mf_X4_copyFrom tw_1378 (Nat.le_of_ble_eq_true rfl) (Nat.le_of_ble_eq_true rfl) hl.1 (Nat.le_of_ble_eq_true rfl) dX5_sumTouched_88 ⟨Nat.le_refl _, Nat.le_refl _⟩ (fun H locs hR hS => ?_)
        refine lv_aload_n hx hb dX5_sumTouched_91 rfl (lv_at hl 2 rfl) ?_
        refine gf_5_2 C hR (x_k hR 46 rfl) tw_392 dX5_sumTouched_92 ?_
        refine lv_dup hx hb dX5_sumTouched_95 rfl ?_
        refine gf_4_4 C hR (x_k hR 47 rfl) tw_225 dX5_sumTouched_96 ?_
        refine lv_iload hx hb dX5_sumTouched_99 (lv_at hl 1 rfl) ?_
        refine lv_iadd hx hb dX5_sumTouched_101 ?_
        obtain ⟨h6, eh6, hf⟩ := x_lt hf
        refine pf_4_4 C hR hS (x_k hR 47 rfl) tw_225 dX5_sumTouched_102 (fun H locs hR hS => ?_)
        rw [← eh6] at hR
        refine lv_iload hx hb dX5_sumTouched_105 (lv_at hl 7 rfl) ?_
        refine lv_if_le (tgt := 138) hx hb dX5_sumTouched_107 rfl (fun hc => ?_) (fun hc => ?_)
        · have hf := x_ip hc hf
          exact B_X5_sumTouched_138  C   ls _ _ h6 _ _ _ _ kv1 (lv_sub hl [2, 3, 4, 6, 0] rfl) hR hS hf
        · have hf := x_in hc hf
          refine lv_aload_n hx hb dX5_sumTouched_110 rfl (lv_at hl 2 rfl) ?_
          refine gf_5_2 C hR (x_k hR 46 rfl) tw_392 dX5_sumTouched_111 ?_
          refine lv_aload_n hx hb dX5_sumTouched_114 rfl (lv_at hl 2 rfl) ?_
          refine gf_5_0 C hR (x_k hR 46 rfl) tw_390 dX5_sumTouched_115 ?_
          refine gf_7_7 C hR (x_k hR 9 rfl) tw_310 dX5_sumTouched_118 ?_
          refine lv_aload_n hx hb dX5_sumTouched_121 rfl (lv_at hl 2 rfl) ?_
          refine gf_5_0 C hR (x_k hR 46 rfl) tw_390 dX5_sumTouched_122 ?_
          refine gf_7_13 C hR (x_k hR 9 rfl) tw_325 dX5_sumTouched_125 ?_
          refine lv_iload hx hb dX5_sumTouched_128 (lv_at hl 7 rfl) ?_
          refine lv_iconst (v := 1) hx hb dX5_sumTouched_130 rfl ?_
          refine lv_isub hx hb dX5_sumTouched_131 ?_
          obtain ⟨g10, hf⟩ := x_gd hf
          refine x_iald C hR (x_k1 (x_k hR 16 rfl)) (x_k2 (x_k hR 16 rfl) g10) dX5_sumTouched_132 ?_
          refine lv_iadd hx hb dX5_sumTouched_133 ?_
          refine lv_iconst (v := 0) hx hb dX5_sumTouched_134 rfl ?_
          obtain ⟨h11, eh11, hf⟩ := x_lt hf
          refine x_cVv2 C hR hS (S_X4_touchFrom (x_k hR 47 rfl) eh11.symm) (x_k hR 47 rfl) (by decide) rfl mf_X4_touchFrom tw_1379 (Nat.le_of_ble_eq_true rfl) (Nat.le_of_ble_eq_true rfl) hl.1 (Nat.le_of_ble_eq_true rfl) dX5_sumTouched_135 ⟨Nat.le_refl _, Nat.le_refl _⟩ (fun H locs hR hS => ?_)
          exact B_X5_sumTouched_138  C   ls _ _ h11 _ _ _ _ kv1 (lv_sub hl [2, 3, 4, 6, 0] rfl) hR hS hf
    · have hf := x_in hc hf
      refine lv_iload_n hx hb dX5_sumTouched_18 rfl (lv_at hl 3 rfl) ?_
      refine lv_iload hx hb dX5_sumTouched_19 (lv_at hl 6 rfl) ?_
      refine lv_ishr hx hb dX5_sumTouched_21 ?_
      refine lv_iconst (v := 1) hx hb dX5_sumTouched_22 rfl ?_
      refine lv_iand hx hb dX5_sumTouched_23 ?_
      refine lv_iconst (v := 1) hx hb dX5_sumTouched_24 rfl ?_
      have kM12 : ∀ (ls : Array Slot) (H : Heap) (locs : List Loc), lv_has ls 8 [(0, .ref (oX O + 46)), (1, va_rf v1), (2, .int v2), (3, .int v3), (4, .int v4), (6, .int v6)] → x_R O K h H → va_S (oA O) s.heap H locs → W p l e (x_rm 5 130) s m args below meth c H locs 0 0 (MQ below (x_Qc O K h' (some (.int r))) args s 0 0 (oA O)) (F0 m 37 ls [.int (if ((x_shr v3 v6) &&& 1) = 1 then (v6 + 1) else v5)]) := by
        intro ls H locs hl hR hS
        obtain ⟨t13, et13, hf⟩ := x_lt hf
        refine x_nmi et13 ?_
        refine lv_istore (lv' := [(5, _), (0, _), (1, _), (2, _), (3, _), (4, _), (6, _)]) hx hb dX5_sumTouched_37 hl (Nat.le_of_ble_eq_true rfl) rfl (fun ls hl => ?_)
        refine lv_iinc (k := 6) (v := _ + 1) (lv' := [(6, _), (5, _), (0, _), (1, _), (2, _), (3, _), (4, _)]) hx hb dX5_sumTouched_39 hl rfl (x_inc 1 1 rfl _) (Nat.le_of_ble_eq_true rfl) rfl (fun ls hl => ?_)
        refine lv_goto (tgt := 6) hx hb dX5_sumTouched_42 rfl ?_
        exact ih ls _ _ h _ _ _ _ _ _ kv1 (lv_sub hl [2, 3, 4, 5, 6, 1, 0] rfl) hR hS hf
      refine lv_icmp_ne (tgt := 35) hx hb dX5_sumTouched_25 rfl (fun hc => ?_) (fun hc => ?_)
      · try simp only [if_neg hc] at kM12
        refine lv_iload hx hb dX5_sumTouched_35 (lv_at hl 5 rfl) ?_
        exact kM12 ls _ _ (lv_sub hl [0, 1, 2, 3, 4, 6] rfl) hR hS
      · try simp only [if_pos hc] at kM12
        refine lv_iload hx hb dX5_sumTouched_28 (lv_at hl 6 rfl) ?_
        refine lv_iconst (v := 1) hx hb dX5_sumTouched_30 rfl ?_
        refine lv_iadd hx hb dX5_sumTouched_31 ?_
        refine lv_goto (tgt := 37) hx hb dX5_sumTouched_32 rfl ?_
        exact kM12 ls _ _ (lv_sub hl [0, 1, 2, 3, 4, 6] rfl) hR hS
set_option maxRecDepth 20000 in
theorem S_X5_sumTouched {l : Launch} {O : XO} {K : XK} {h : XH} {v1 : Option Nat} {v2 : Int32} {v3 : Int32} {v4 : Int32}  {r : Int32} {h' : XH} (k1 : ∀ r, v1 = some r → K r = (11, 0)) (hf : f_X5_sumTouched K (oX O) h v1 v2 v3 v4 = some (r, h')) : x_M l O K yX5_sumTouched cX5_sumTouched 8 (some .int) 5 130 h [.ref (oX O + 46), va_rf v1, .int v2, .int v3, .int v4] (some (.int r)) h' := by
  refine x_enter (by decide) (by cases v1 <;> exact Nat.le_of_ble_eq_true rfl) (fun p e s m args below meth c C hR ls hl => ?_)
  have hS : va_S (oA O) s.heap s.heap [] := va_S.rf
  have hx := C.1
  have hb := C.2.1
  have hl : lv_has ls 8 [(0, .ref (oX O + 46)), (1, va_rf v1), (2, .int v2), (3, .int v3), (4, .int v4)] := by cases v1 <;> exact hl
  rw [f_X5_sumTouched] at hf
  refine lv_iconst (v := 0) hx hb dX5_sumTouched_0 rfl ?_
  refine lv_istore (lv' := [(5, _), (0, _), (1, _), (2, _), (3, _), (4, _)]) hx hb dX5_sumTouched_1 hl (Nat.le_of_ble_eq_true rfl) rfl (fun ls hl => ?_)
  refine lv_iconst (v := 0) hx hb dX5_sumTouched_3 rfl ?_
  refine lv_istore (lv' := [(6, _), (5, _), (0, _), (1, _), (2, _), (3, _), (4, _)]) hx hb dX5_sumTouched_4 hl (Nat.le_of_ble_eq_true rfl) rfl (fun ls hl => ?_)
  exact B_X5_sumTouched_6  C  x_FU ls _ _ h _ _ _ _ _ _ k1 (lv_sub hl [2, 3, 4, 5, 6, 1, 0] rfl) hR hS hf
def f_X5_sumIfPut (K : XK) (x : Nat) (h : XH) (v1 : Option Nat) (v2 : Int32) (v3 : Int32) (v4 : Int32) (v5 : Int32) : Option (Int32 × XH) := if x_b v2 8 = true then Option.bind (f_X2_placesBy ((x + 13) + 6 + 3 * v2.toNatClampNeg) h v4) (fun v_2 => if x_b v3 6 = true then if v_2 ≤ (h.1 (x + 11) v3.toNatClampNeg) then x_let (f_X4_begin (x + 47) h v3 0 v4 v5) (fun h4 => x_let (x_i h4 (x + 47) 7 (h4.1 (x + 9) 6)) (fun h5 => x_let (f_X4_touchFrom (x + 47) h5 (h5.1 (x + 9) 7) 0) (fun h6 => Option.bind (f_X5_sumBy K x h6 v1 v2 (x + 47) (h6.1 (x + 9) 7)) (fun q7 => some (q7.1, q7.2))))) else some ((-1), h) else none) else none
set_option maxRecDepth 20000 in
theorem S_X5_sumIfPut {l : Launch} {O : XO} {K : XK} {h : XH} {v1 : Option Nat} {v2 : Int32} {v3 : Int32} {v4 : Int32} {v5 : Int32}  {r : Int32} {h' : XH} (k1 : ∀ r, v1 = some r → K r = (11, 0)) (hf : f_X5_sumIfPut K (oX O) h v1 v2 v3 v4 v5 = some (r, h')) : x_M l O K yX5_sumIfPut cX5_sumIfPut 6 (some .int) 5 130 h [.ref (oX O + 46), va_rf v1, .int v2, .int v3, .int v4, .int v5] (some (.int r)) h' := by
  refine x_enter (by decide) (by cases v1 <;> exact Nat.le_of_ble_eq_true rfl) (fun p e s m args below meth c C hR ls hl => ?_)
  have hS : va_S (oA O) s.heap s.heap [] := va_S.rf
  have hx := C.1
  have hb := C.2.1
  have hl : lv_has ls 6 [(0, .ref (oX O + 46)), (1, va_rf v1), (2, .int v2), (3, .int v3), (4, .int v4), (5, .int v5)] := by cases v1 <;> exact hl
  rw [f_X5_sumIfPut] at hf
  refine lv_aload_n hx hb dX5_sumIfPut_0 rfl (lv_at hl 0 rfl) ?_
  refine gf_5_0 C hR (x_k hR 46 rfl) tw_390 dX5_sumIfPut_1 ?_
  refine gf_7_5 C hR (x_k hR 9 rfl) tw_302 dX5_sumIfPut_4 ?_
  refine lv_iload_n hx hb dX5_sumIfPut_7 rfl (lv_at hl 2 rfl) ?_
  obtain ⟨g1, hf⟩ := x_gd hf
  refine x_paald C hR (x_k1 (x_k hR 13 rfl)) (x_k2 (x_k hR 13 rfl) g1) dX5_sumIfPut_8 ?_
  refine lv_iload hx hb dX5_sumIfPut_9 (lv_at hl 4 rfl) ?_
  obtain ⟨v_2, ev_2, hf⟩ := x_bd hf
  refine x_cVi1 C hR hS (S_X2_placesBy (x_kP hR (x_k hR 13 rfl) g1) ev_2) (x_kP hR (x_k hR 13 rfl) g1) (by decide) rfl mf_X2_placesBy tw_1078 (Nat.le_of_ble_eq_true rfl) (Nat.le_of_ble_eq_true rfl) hl.1 (Nat.le_of_ble_eq_true rfl) dX5_sumIfPut_11 ⟨Nat.le_refl _, Nat.le_refl _⟩ (fun H locs hR hS => ?_)
  refine lv_aload_n hx hb dX5_sumIfPut_14 rfl (lv_at hl 0 rfl) ?_
  refine gf_5_0 C hR (x_k hR 46 rfl) tw_390 dX5_sumIfPut_15 ?_
  refine gf_7_2 C hR (x_k hR 9 rfl) tw_292 dX5_sumIfPut_18 ?_
  refine lv_iload_n hx hb dX5_sumIfPut_21 rfl (lv_at hl 3 rfl) ?_
  obtain ⟨g3, hf⟩ := x_gd hf
  refine x_iald C hR (x_k1 (x_k hR 11 rfl)) (x_k2 (x_k hR 11 rfl) g3) dX5_sumIfPut_22 ?_
  refine lv_icmp_le (tgt := 28) hx hb dX5_sumIfPut_23 rfl (fun hc => ?_) (fun hc => ?_)
  · have hf := x_ip hc hf
    refine lv_aload_n hx hb dX5_sumIfPut_28 rfl (lv_at hl 0 rfl) ?_
    refine gf_5_2 C hR (x_k hR 46 rfl) tw_392 dX5_sumIfPut_29 ?_
    refine lv_iload_n hx hb dX5_sumIfPut_32 rfl (lv_at hl 3 rfl) ?_
    refine lv_iconst (v := 0) hx hb dX5_sumIfPut_33 rfl ?_
    refine lv_iload hx hb dX5_sumIfPut_34 (lv_at hl 4 rfl) ?_
    refine lv_iload hx hb dX5_sumIfPut_36 (lv_at hl 5 rfl) ?_
    obtain ⟨h4, eh4, hf⟩ := x_lt hf
    refine x_cVv4 C hR hS (S_X4_begin (x_k hR 47 rfl) eh4.symm) (x_k hR 47 rfl) (by decide) rfl mf_X4_begin tw_1406 (Nat.le_of_ble_eq_true rfl) (Nat.le_of_ble_eq_true rfl) hl.1 (Nat.le_of_ble_eq_true rfl) dX5_sumIfPut_38 ⟨Nat.le_refl _, Nat.le_refl _⟩ (fun H locs hR hS => ?_)
    refine lv_aload_n hx hb dX5_sumIfPut_41 rfl (lv_at hl 0 rfl) ?_
    refine gf_5_2 C hR (x_k hR 46 rfl) tw_392 dX5_sumIfPut_42 ?_
    refine lv_aload_n hx hb dX5_sumIfPut_45 rfl (lv_at hl 0 rfl) ?_
    refine gf_5_0 C hR (x_k hR 46 rfl) tw_390 dX5_sumIfPut_46 ?_
    refine gf_7_6 C hR (x_k hR 9 rfl) tw_307 dX5_sumIfPut_49 ?_
    obtain ⟨h5, eh5, hf⟩ := x_lt hf
    refine pf_4_7 C hR hS (x_k hR 47 rfl) tw_230 dX5_sumIfPut_52 (fun H locs hR hS => ?_)
    rw [← eh5] at hR
    refine lv_aload_n hx hb dX5_sumIfPut_55 rfl (lv_at hl 0 rfl) ?_
    refine gf_5_2 C hR (x_k hR 46 rfl) tw_392 dX5_sumIfPut_56 ?_
    refine lv_aload_n hx hb dX5_sumIfPut_59 rfl (lv_at hl 0 rfl) ?_
    refine gf_5_0 C hR (x_k hR 46 rfl) tw_390 dX5_sumIfPut_60 ?_
    refine gf_7_7 C hR (x_k hR 9 rfl) tw_310 dX5_sumIfPut_63 ?_
    refine lv_iconst (v := 0) hx hb dX5_sumIfPut_66 rfl ?_
    obtain ⟨h6, eh6, hf⟩ := x_lt hf
    refine x_cVv2 C hR hS (S_X4_touchFrom (x_k hR 47 rfl) eh6.symm) (x_k hR 47 rfl) (by decide) rfl mf_X4_touchFrom tw_1379 (Nat.le_of_ble_eq_true rfl) (Nat.le_of_ble_eq_true rfl) hl.1 (Nat.le_of_ble_eq_true rfl) dX5_sumIfPut_67 ⟨Nat.le_refl _, Nat.le_refl _⟩ (fun H locs hR hS => ?_)
    refine lv_aload_n hx hb dX5_sumIfPut_70 rfl (lv_at hl 0 rfl) ?_
    refine x_aloadq_n hx hb dX5_sumIfPut_71 rfl (lv_at hl 1 rfl) ?_
    refine lv_iload_n hx hb dX5_sumIfPut_72 rfl (lv_at hl 2 rfl) ?_
    refine lv_aload_n hx hb dX5_sumIfPut_73 rfl (lv_at hl 0 rfl) ?_
    refine gf_5_2 C hR (x_k hR 46 rfl) tw_392 dX5_sumIfPut_74 ?_
    refine lv_aload_n hx hb dX5_sumIfPut_77 rfl (lv_at hl 0 rfl) ?_
    refine gf_5_0 C hR (x_k hR 46 rfl) tw_390 dX5_sumIfPut_78 ?_
    refine gf_7_7 C hR (x_k hR 9 rfl) tw_310 dX5_sumIfPut_81 ?_
    obtain ⟨q7, eq7, hf⟩ := x_bd hf
    refine x_cVi4 C hR hS (S_X5_sumBy k1 (x_k hR 47 rfl) eq7) (x_k hR 46 rfl) (by decide) rfl mf_X5_sumBy tw_1149 (Nat.le_of_ble_eq_true rfl) (Nat.le_of_ble_eq_true rfl) hl.1 (Nat.le_of_ble_eq_true rfl) dX5_sumIfPut_84 ⟨Nat.le_refl _, Nat.le_refl _⟩ (fun H locs hR hS => ?_)
    cases hf
    exact x_iret C hR hS dX5_sumIfPut_87
  · have hf := x_in hc hf
    refine lv_iconst (v := (-1)) hx hb dX5_sumIfPut_26 rfl ?_
    cases hf
    exact x_iret C hR hS dX5_sumIfPut_27
