def f_X0_gainAs_5 (x : Nat) (h : XH) : Nat → Int32 → Int32 → Int32 → Int32 → Option Int32
  | 0, _, _, _, _ => none
  | n + 1, v1, v2, v3, v4 => if 3 ≤ v4 then some v3 else if x_b ((v2 * 3) + v4) 156 = true then if x_b ((((v1 * 3) + v4) * 10) + (h.1 (x + 10) ((v2 * 3) + v4).toNatClampNeg)) 1560 = true then if x_b ((v1 * 3) + v4) 156 = true then if x_b ((((v1 * 3) + v4) * 10) + (h.1 (x + 10) ((v1 * 3) + v4).toNatClampNeg)) 1560 = true then x_let ((v3 + ((h.1 (x + 62) ((((v1 * 3) + v4) * 10) + (h.1 (x + 10) ((v2 * 3) + v4).toNatClampNeg)).toNatClampNeg) - (h.1 (x + 62) ((((v1 * 3) + v4) * 10) + (h.1 (x + 10) ((v1 * 3) + v4).toNatClampNeg)).toNatClampNeg))) : Int32) (fun t5 => f_X0_gainAs_5 x h n v1 v2 t5 (v4 + 1)) else none else none else none else none
def f_X0_gainAs (x : Nat) (h : XH) (v1 : Int32) (v2 : Int32) : Option Int32 := f_X0_gainAs_5 x h x_FU v1 v2 0 0
set_option maxRecDepth 20000 in
theorem B_X0_gainAs_5 {p : Program} {l : Launch} {e : Env} {s : State} {m : MethodId} {args : Array Value} {below : List Frame} {meth : Method} {c : Code} {O : XO} {K : XK} {h : XH} {r : Int32}   (C : x_C p s m args meth c O cX0_gainAs 6 RX0 (some .int))   : ∀ (n : Nat) (ls : Array Slot) (H : Heap) (locs : List Loc) (v1 : Int32) (v2 : Int32) (v3 : Int32) (v4 : Int32) (hl : lv_has ls 6 [(0, .ref (oX O + 59)), (1, .int v1), (2, .int v2), (3, .int v3), (4, .int v4)]) (hR : x_R O K h H) (hS : va_S (oA O) s.heap H locs) (hf : f_X0_gainAs_5 (oX O) h n v1 v2 v3 v4 = some r), W p l e (x_rm 0 0) s m args below meth c H locs 0 0 (MQ below (x_Qc O K h (some (.int r))) args s 0 0 (oA O)) (F0 m 5 ls []) := by
  have hx := C.1
  have hb := C.2.1
  intro n
  induction n with
  | zero =>
    intro ls H locs v1 v2 v3 v4 hl hR hS hf
    rw [f_X0_gainAs_5] at hf
    cases hf
  | succ n ih =>
    intro ls H locs v1 v2 v3 v4 hl hR hS hf
    rw [f_X0_gainAs_5] at hf
    refine lv_iload hx hb dX0_gainAs_5 (lv_at hl 4 rfl) ?_
    refine lv_iconst (v := 3) hx hb dX0_gainAs_7 rfl ?_
    refine lv_icmp_ge (tgt := 76) hx hb dX0_gainAs_8 rfl (fun hc => ?_) (fun hc => ?_)
    · have hf := x_ip hc hf
      refine lv_iload_n hx hb dX0_gainAs_76 rfl (lv_at hl 3 rfl) ?_
      cases hf
      exact x_iret C hR hS dX0_gainAs_77
    · have hf := x_in hc hf
      refine lv_iload_n hx hb dX0_gainAs_11 rfl (lv_at hl 1 rfl) ?_
      refine lv_iconst (v := 3) hx hb dX0_gainAs_12 rfl ?_
      refine lv_imul hx hb dX0_gainAs_13 ?_
      refine lv_iload hx hb dX0_gainAs_14 (lv_at hl 4 rfl) ?_
      refine lv_iadd hx hb dX0_gainAs_16 ?_
      refine lv_bipush (v := 10) hx hb dX0_gainAs_17 rfl ?_
      refine lv_imul hx hb dX0_gainAs_19 ?_
      refine lv_istore (lv' := [(5, _), (0, _), (1, _), (2, _), (3, _), (4, _)]) hx hb dX0_gainAs_20 hl (Nat.le_of_ble_eq_true rfl) rfl (fun ls hl => ?_)
      refine lv_iload_n hx hb dX0_gainAs_22 rfl (lv_at hl 4 rfl) ?_
      refine lv_aload_n hx hb dX0_gainAs_23 rfl (lv_at hl 1 rfl) ?_
      refine gf_0_4 C hR (x_k hR 59 rfl) tw_480 dX0_gainAs_24 ?_
      refine lv_iload hx hb dX0_gainAs_27 (lv_at hl 0 rfl) ?_
      refine lv_aload_n hx hb dX0_gainAs_29 rfl (lv_at hl 1 rfl) ?_
      refine gf_0_0 C hR (x_k hR 59 rfl) tw_476 dX0_gainAs_30 ?_
      refine gf_7_0 C hR (x_k hR 9 rfl) tw_287 dX0_gainAs_33 ?_
      refine lv_iload_n hx hb dX0_gainAs_36 rfl (lv_at hl 3 rfl) ?_
      refine lv_iconst (v := 3) hx hb dX0_gainAs_37 rfl ?_
      refine lv_imul hx hb dX0_gainAs_38 ?_
      refine lv_iload hx hb dX0_gainAs_39 (lv_at hl 5 rfl) ?_
      refine lv_iadd hx hb dX0_gainAs_41 ?_
      obtain ⟨g1, hf⟩ := x_gd hf
      refine x_iald C hR (x_k1 (x_k hR 10 rfl)) (x_k2 (x_k hR 10 rfl) g1) dX0_gainAs_42 ?_
      refine lv_iadd hx hb dX0_gainAs_43 ?_
      obtain ⟨g2, hf⟩ := x_gd hf
      refine x_iald C hR (x_k1 (x_k hR 62 rfl)) (x_k2 (x_k hR 62 rfl) g2) dX0_gainAs_44 ?_
      refine lv_aload_n hx hb dX0_gainAs_45 rfl (lv_at hl 1 rfl) ?_
      refine gf_0_4 C hR (x_k hR 59 rfl) tw_480 dX0_gainAs_46 ?_
      refine lv_iload hx hb dX0_gainAs_49 (lv_at hl 0 rfl) ?_
      refine lv_aload_n hx hb dX0_gainAs_51 rfl (lv_at hl 1 rfl) ?_
      refine gf_0_0 C hR (x_k hR 59 rfl) tw_476 dX0_gainAs_52 ?_
      refine gf_7_0 C hR (x_k hR 9 rfl) tw_287 dX0_gainAs_55 ?_
      refine lv_iload_n hx hb dX0_gainAs_58 rfl (lv_at hl 2 rfl) ?_
      refine lv_iconst (v := 3) hx hb dX0_gainAs_59 rfl ?_
      refine lv_imul hx hb dX0_gainAs_60 ?_
      refine lv_iload hx hb dX0_gainAs_61 (lv_at hl 5 rfl) ?_
      refine lv_iadd hx hb dX0_gainAs_63 ?_
      obtain ⟨g3, hf⟩ := x_gd hf
      refine x_iald C hR (x_k1 (x_k hR 10 rfl)) (x_k2 (x_k hR 10 rfl) g3) dX0_gainAs_64 ?_
      refine lv_iadd hx hb dX0_gainAs_65 ?_
      obtain ⟨g4, hf⟩ := x_gd hf
      refine x_iald C hR (x_k1 (x_k hR 62 rfl)) (x_k2 (x_k hR 62 rfl) g4) dX0_gainAs_66 ?_
      refine lv_isub hx hb dX0_gainAs_67 ?_
      refine lv_iadd hx hb dX0_gainAs_68 ?_
      obtain ⟨t5, et5, hf⟩ := x_lt hf
      refine x_nmi et5 ?_
      refine lv_istore_n (lv' := [(3, _), (5, _), (0, _), (1, _), (2, _), (4, _)]) hx hb dX0_gainAs_69 rfl hl (Nat.le_of_ble_eq_true rfl) rfl (fun ls hl => ?_)
      refine lv_iinc (k := 5) (v := _ + 1) (lv' := [(4, _), (3, _), (5, _), (0, _), (1, _), (2, _)]) hx hb dX0_gainAs_70 hl rfl (x_inc 1 1 rfl _) (Nat.le_of_ble_eq_true rfl) rfl (fun ls hl => ?_)
      refine lv_goto (tgt := 5) hx hb dX0_gainAs_73 rfl ?_
      exact ih ls _ _ _ _ _ _  (lv_sub hl [3, 4, 5, 1, 0] rfl) hR hS hf
set_option maxRecDepth 20000 in
theorem S_X0_gainAs {l : Launch} {O : XO} {K : XK} {h : XH} {v1 : Int32} {v2 : Int32}  {r : Int32}  (hf : f_X0_gainAs (oX O) h v1 v2 = some r) : x_M l O K yX0_gainAs cX0_gainAs 6 (some .int) 0 0 h [.ref (oX O + 59), .int v1, .int v2] (some (.int r)) h := by
  refine x_enter (by decide) (Nat.le_of_ble_eq_true rfl) (fun p e s m args below meth c C hR ls hl => ?_)
  have hS : va_S (oA O) s.heap s.heap [] := va_S.rf
  have hx := C.1
  have hb := C.2.1
  have hl : lv_has ls 6 [(0, .ref (oX O + 59)), (1, .int v1), (2, .int v2)] := hl
  rw [f_X0_gainAs] at hf
  refine lv_iconst (v := 0) hx hb dX0_gainAs_0 rfl ?_
  refine lv_istore_n (lv' := [(3, _), (0, _), (1, _), (2, _)]) hx hb dX0_gainAs_1 rfl hl (Nat.le_of_ble_eq_true rfl) rfl (fun ls hl => ?_)
  refine lv_iconst (v := 0) hx hb dX0_gainAs_2 rfl ?_
  refine lv_istore (lv' := [(4, _), (3, _), (0, _), (1, _), (2, _)]) hx hb dX0_gainAs_3 hl (Nat.le_of_ble_eq_true rfl) rfl (fun ls hl => ?_)
  exact B_X0_gainAs_5  C  x_FU ls _ _ _ _ _ _  (lv_sub hl [2, 3, 4, 1, 0] rfl) hR hS hf
def f_X2_cardAt (a : Nat) (h : XH) (v1 : Int32) : Int32 := (x_rem ((h.1 a 0) + (v1 * (h.1 a 1))) 52)
set_option maxRecDepth 20000 in
theorem S_X2_cardAt {l : Launch} {O : XO} {K : XK} {h : XH} {a : Nat} {v1 : Int32}  {r : Int32} (k0 : K a = (3, 0)) (hf : f_X2_cardAt a h v1 = r) : x_M l O K yX2_cardAt cX2_cardAt 2 (some .int) 0 0 h [.ref a, .int v1] (some (.int r)) h := by
  refine x_enter (by decide) (Nat.le_of_ble_eq_true rfl) (fun p e s m args below meth c C hR ls hl => ?_)
  have hS : va_S (oA O) s.heap s.heap [] := va_S.rf
  have hx := C.1
  have hb := C.2.1
  have hl : lv_has ls 2 [(0, .ref a), (1, .int v1)] := hl
  rw [f_X2_cardAt] at hf
  refine lv_aload_n hx hb dX2_cardAt_0 rfl (lv_at hl 0 rfl) ?_
  refine gf_2_0 C hR k0 tw_250 dX2_cardAt_1 ?_
  refine lv_iload_n hx hb dX2_cardAt_4 rfl (lv_at hl 1 rfl) ?_
  refine lv_aload_n hx hb dX2_cardAt_5 rfl (lv_at hl 0 rfl) ?_
  refine gf_2_1 C hR k0 tw_251 dX2_cardAt_6 ?_
  refine lv_imul hx hb dX2_cardAt_9 ?_
  refine lv_iadd hx hb dX2_cardAt_10 ?_
  refine lv_bipush (v := 52) hx hb dX2_cardAt_11 rfl ?_
  refine lv_irem hx hb dX2_cardAt_13 (by decide) ?_
  cases hf
  exact x_iret C hR hS dX2_cardAt_14
def f_X2_placesBy (a : Nat) (h : XH) (v1 : Int32) : Option Int32 := if 1 ≤ v1 then if v1 = 0 then none else some ((((h.1 a 2) + v1) - 1) / v1) else some 0
set_option maxRecDepth 20000 in
theorem S_X2_placesBy {l : Launch} {O : XO} {K : XK} {h : XH} {a : Nat} {v1 : Int32}  {r : Int32} (k0 : K a = (3, 0)) (hf : f_X2_placesBy a h v1 = some r) : x_M l O K yX2_placesBy cX2_placesBy 2 (some .int) 0 0 h [.ref a, .int v1] (some (.int r)) h := by
  refine x_enter (by decide) (Nat.le_of_ble_eq_true rfl) (fun p e s m args below meth c C hR ls hl => ?_)
  have hS : va_S (oA O) s.heap s.heap [] := va_S.rf
  have hx := C.1
  have hb := C.2.1
  have hl : lv_has ls 2 [(0, .ref a), (1, .int v1)] := hl
  rw [f_X2_placesBy] at hf
  refine lv_iload_n hx hb dX2_placesBy_0 rfl (lv_at hl 1 rfl) ?_
  refine lv_iconst (v := 1) hx hb dX2_placesBy_1 rfl ?_
  refine lv_icmp_ge (tgt := 9) hx hb dX2_placesBy_2 rfl (fun hc => ?_) (fun hc => ?_)
  · have hf := x_ip hc hf
    refine lv_aload_n hx hb dX2_placesBy_9 rfl (lv_at hl 0 rfl) ?_
    refine gf_2_2 C hR k0 tw_252 dX2_placesBy_10 ?_
    refine lv_iload_n hx hb dX2_placesBy_13 rfl (lv_at hl 1 rfl) ?_
    refine lv_iadd hx hb dX2_placesBy_14 ?_
    refine lv_iconst (v := 1) hx hb dX2_placesBy_15 rfl ?_
    refine lv_isub hx hb dX2_placesBy_16 ?_
    refine lv_iload_n hx hb dX2_placesBy_17 rfl (lv_at hl 1 rfl) ?_
    obtain ⟨g1, hf⟩ := x_gn hf
    refine lv_idiv hx hb dX2_placesBy_18 g1 ?_
    cases hf
    exact x_iret C hR hS dX2_placesBy_19
  · have hf := x_in hc hf
    refine lv_iconst (v := 0) hx hb dX2_placesBy_5 rfl ?_
    refine lv_goto (tgt := 19) hx hb dX2_placesBy_6 rfl ?_
    cases hf
    exact x_iret C hR hS dX2_placesBy_19
def f_X2_places (a : Nat) (h : XH) : Option Int32 := Option.bind (f_X2_placesBy a h (h.1 (a + 1) 2)) (fun v_1 => some v_1)
set_option maxRecDepth 20000 in
theorem S_X2_places {l : Launch} {O : XO} {K : XK} {h : XH} {a : Nat}  {r : Int32} (k0 : K a = (3, 0)) (hf : f_X2_places a h = some r) : x_M l O K yX2_places cX2_places 1 (some .int) 1 21 h [.ref a] (some (.int r)) h := by
  refine x_enter (by decide) (Nat.le_of_ble_eq_true rfl) (fun p e s m args below meth c C hR ls hl => ?_)
  have hS : va_S (oA O) s.heap s.heap [] := va_S.rf
  have hx := C.1
  have hb := C.2.1
  have hl : lv_has ls 1 [(0, .ref a)] := hl
  rw [f_X2_places] at hf
  refine lv_aload_n hx hb dX2_places_0 rfl (lv_at hl 0 rfl) ?_
  refine lv_aload_n hx hb dX2_places_1 rfl (lv_at hl 0 rfl) ?_
  refine gf_2_4 C hR k0 tw_262 dX2_places_2 ?_
  refine gf_4_2 C hR (kf_2_1 hR k0) tw_220 dX2_places_5 ?_
  obtain ⟨v_1, ev_1, hf⟩ := x_bd hf
  refine x_cVi1 C hR hS (S_X2_placesBy k0 ev_1) k0 (by decide) rfl mf_X2_placesBy tw_1043 (Nat.le_of_ble_eq_true rfl) (Nat.le_of_ble_eq_true rfl) hl.1 (Nat.le_of_ble_eq_true rfl) dX2_places_8 ⟨Nat.le_refl _, Nat.le_refl _⟩ (fun H locs hR hS => ?_)
  cases hf
  exact x_iret C hR hS dX2_places_11
def f_X2_placeOf (a : Nat) (h : XH) (v1 : Int32) : Option Int32 := if 1 ≤ (h.1 (a + 1) 2) then if (h.1 (a + 1) 2) = 0 then none else some (v1 / (h.1 (a + 1) 2)) else some 0
set_option maxRecDepth 20000 in
theorem S_X2_placeOf {l : Launch} {O : XO} {K : XK} {h : XH} {a : Nat} {v1 : Int32}  {r : Int32} (k0 : K a = (3, 0)) (hf : f_X2_placeOf a h v1 = some r) : x_M l O K yX2_placeOf cX2_placeOf 2 (some .int) 0 0 h [.ref a, .int v1] (some (.int r)) h := by
  refine x_enter (by decide) (Nat.le_of_ble_eq_true rfl) (fun p e s m args below meth c C hR ls hl => ?_)
  have hS : va_S (oA O) s.heap s.heap [] := va_S.rf
  have hx := C.1
  have hb := C.2.1
  have hl : lv_has ls 2 [(0, .ref a), (1, .int v1)] := hl
  rw [f_X2_placeOf] at hf
  refine lv_aload_n hx hb dX2_placeOf_0 rfl (lv_at hl 0 rfl) ?_
  refine gf_2_4 C hR k0 tw_262 dX2_placeOf_1 ?_
  refine gf_4_2 C hR (kf_2_1 hR k0) tw_220 dX2_placeOf_4 ?_
  refine lv_iconst (v := 1) hx hb dX2_placeOf_7 rfl ?_
  refine lv_icmp_ge (tgt := 15) hx hb dX2_placeOf_8 rfl (fun hc => ?_) (fun hc => ?_)
  · have hf := x_ip hc hf
    refine lv_iload_n hx hb dX2_placeOf_15 rfl (lv_at hl 1 rfl) ?_
    refine lv_aload_n hx hb dX2_placeOf_16 rfl (lv_at hl 0 rfl) ?_
    refine gf_2_4 C hR k0 tw_262 dX2_placeOf_17 ?_
    refine gf_4_2 C hR (kf_2_1 hR k0) tw_220 dX2_placeOf_20 ?_
    obtain ⟨g1, hf⟩ := x_gn hf
    refine lv_idiv hx hb dX2_placeOf_23 g1 ?_
    cases hf
    exact x_iret C hR hS dX2_placeOf_24
  · have hf := x_in hc hf
    refine lv_iconst (v := 0) hx hb dX2_placeOf_11 rfl ?_
    refine lv_goto (tgt := 24) hx hb dX2_placeOf_12 rfl ?_
    cases hf
    exact x_iret C hR hS dX2_placeOf_24
def f_X2_roleOf (a : Nat) (h : XH) (v1 : Int32) : Option Int32 := Option.bind (f_X2_placeOf a h v1) (fun v_1 => some (v1 - (v_1 * (h.1 (a + 1) 2))))
set_option maxRecDepth 20000 in
theorem S_X2_roleOf {l : Launch} {O : XO} {K : XK} {h : XH} {a : Nat} {v1 : Int32}  {r : Int32} (k0 : K a = (3, 0)) (hf : f_X2_roleOf a h v1 = some r) : x_M l O K yX2_roleOf cX2_roleOf 2 (some .int) 1 21 h [.ref a, .int v1] (some (.int r)) h := by
  refine x_enter (by decide) (Nat.le_of_ble_eq_true rfl) (fun p e s m args below meth c C hR ls hl => ?_)
  have hS : va_S (oA O) s.heap s.heap [] := va_S.rf
  have hx := C.1
  have hb := C.2.1
  have hl : lv_has ls 2 [(0, .ref a), (1, .int v1)] := hl
  rw [f_X2_roleOf] at hf
  refine lv_iload_n hx hb dX2_roleOf_0 rfl (lv_at hl 1 rfl) ?_
  refine lv_aload_n hx hb dX2_roleOf_1 rfl (lv_at hl 0 rfl) ?_
  refine lv_iload_n hx hb dX2_roleOf_2 rfl (lv_at hl 1 rfl) ?_
  obtain ⟨v_1, ev_1, hf⟩ := x_bd hf
  refine x_cVi1 C hR hS (S_X2_placeOf k0 ev_1) k0 (by decide) rfl mf_X2_placeOf tw_1060 (Nat.le_of_ble_eq_true rfl) (Nat.le_of_ble_eq_true rfl) hl.1 (Nat.le_of_ble_eq_true rfl) dX2_roleOf_3 ⟨Nat.le_refl _, Nat.le_refl _⟩ (fun H locs hR hS => ?_)
  refine lv_aload_n hx hb dX2_roleOf_6 rfl (lv_at hl 0 rfl) ?_
  refine gf_2_4 C hR k0 tw_262 dX2_roleOf_7 ?_
  refine gf_4_2 C hR (kf_2_1 hR k0) tw_220 dX2_roleOf_10 ?_
  refine lv_imul hx hb dX2_roleOf_13 ?_
  refine lv_isub hx hb dX2_roleOf_14 ?_
  cases hf
  exact x_iret C hR hS dX2_roleOf_15
def f_X2_cardWith (a : Nat) (h : XH) (v1 : Int32) (v2 : Int32) : Int32 := x_let (((v1 * (h.1 (a + 1) 2)) + v2) : Int32) (fun t1 => (if v1 < 0 then (-1) else (if (h.1 (a + 1) 2) ≤ v2 then (-1) else (if t1 < (h.1 a 2) then (f_X2_cardAt a h t1) else (-1)))))
set_option maxRecDepth 20000 in
theorem S_X2_cardWith {l : Launch} {O : XO} {K : XK} {h : XH} {a : Nat} {v1 : Int32} {v2 : Int32}  {r : Int32} (k0 : K a = (3, 0)) (hf : f_X2_cardWith a h v1 v2 = r) : x_M l O K yX2_cardWith cX2_cardWith 4 (some .int) 1 21 h [.ref a, .int v1, .int v2] (some (.int r)) h := by
  refine x_enter (by decide) (Nat.le_of_ble_eq_true rfl) (fun p e s m args below meth c C hR ls hl => ?_)
  have hS : va_S (oA O) s.heap s.heap [] := va_S.rf
  have hx := C.1
  have hb := C.2.1
  have hl : lv_has ls 4 [(0, .ref a), (1, .int v1), (2, .int v2)] := hl
  rw [f_X2_cardWith] at hf
  refine lv_iload_n hx hb dX2_cardWith_0 rfl (lv_at hl 1 rfl) ?_
  refine lv_aload_n hx hb dX2_cardWith_1 rfl (lv_at hl 0 rfl) ?_
  refine gf_2_4 C hR k0 tw_262 dX2_cardWith_2 ?_
  refine gf_4_2 C hR (kf_2_1 hR k0) tw_220 dX2_cardWith_5 ?_
  refine lv_imul hx hb dX2_cardWith_8 ?_
  refine lv_iload_n hx hb dX2_cardWith_9 rfl (lv_at hl 2 rfl) ?_
  refine lv_iadd hx hb dX2_cardWith_10 ?_
  obtain ⟨t1, et1, hf⟩ := x_lt hf
  refine x_nmi et1 ?_
  refine lv_istore_n (lv' := [(3, _), (0, _), (1, _), (2, _)]) hx hb dX2_cardWith_11 rfl hl (Nat.le_of_ble_eq_true rfl) rfl (fun ls hl => ?_)
  refine lv_iload_n hx hb dX2_cardWith_12 rfl (lv_at hl 2 rfl) ?_
  have kM2 : ∀ (ls : Array Slot) (H : Heap) (locs : List Loc), lv_has ls 4 [] → x_R O K h H → va_S (oA O) s.heap H locs → W p l e (x_rm 1 21) s m args below meth c H locs 0 0 (MQ below (x_Qc O K h (some (.int r))) args s 0 0 (oA O)) (F0 m 44 ls [.int (if v1 < 0 then (-1) else (if (h.1 (a + 1) 2) ≤ v2 then (-1) else (if t1 < (h.1 a 2) then (f_X2_cardAt a h t1) else (-1))))]) := by
    intro ls H locs hl hR hS
    cases hf
    exact x_iret C hR hS dX2_cardWith_44
  refine lv_if_lt (tgt := 35) hx hb dX2_cardWith_13 rfl (fun hc => ?_) (fun hc => ?_)
  · try simp only [if_pos hc] at kM2
    refine lv_iconst (v := (-1)) hx hb dX2_cardWith_35 rfl ?_
    refine lv_goto (tgt := 44) hx hb dX2_cardWith_36 rfl ?_
    exact kM2 ls _ _ (lv_sub hl [] rfl) hR hS
  · try simp only [if_neg hc] at kM2
    refine lv_iload_n hx hb dX2_cardWith_16 rfl (lv_at hl 3 rfl) ?_
    refine lv_aload_n hx hb dX2_cardWith_17 rfl (lv_at hl 1 rfl) ?_
    refine gf_2_4 C hR k0 tw_262 dX2_cardWith_18 ?_
    refine gf_4_2 C hR (kf_2_1 hR k0) tw_220 dX2_cardWith_21 ?_
    refine lv_icmp_ge (tgt := 35) hx hb dX2_cardWith_24 rfl (fun hc => ?_) (fun hc => ?_)
    · try simp only [if_pos hc] at kM2
      refine lv_iconst (v := (-1)) hx hb dX2_cardWith_35 rfl ?_
      refine lv_goto (tgt := 44) hx hb dX2_cardWith_36 rfl ?_
      exact kM2 ls _ _ (lv_sub hl [] rfl) hR hS
    · try simp only [if_neg hc] at kM2
      refine lv_iload_n hx hb dX2_cardWith_27 rfl (lv_at hl 0 rfl) ?_
      refine lv_aload_n hx hb dX2_cardWith_28 rfl (lv_at hl 1 rfl) ?_
      refine gf_2_2 C hR k0 tw_252 dX2_cardWith_29 ?_
      refine lv_icmp_lt (tgt := 39) hx hb dX2_cardWith_32 rfl (fun hc => ?_) (fun hc => ?_)
      · try simp only [if_pos hc] at kM2
        refine lv_aload_n hx hb dX2_cardWith_39 rfl (lv_at hl 1 rfl) ?_
        refine lv_iload_n hx hb dX2_cardWith_40 rfl (lv_at hl 0 rfl) ?_
        refine x_cVi1 C hR hS (S_X2_cardAt k0 rfl) k0 (by decide) rfl mf_X2_cardAt tw_618 (Nat.le_of_ble_eq_true rfl) (Nat.le_of_ble_eq_true rfl) hl.1 (Nat.le_of_ble_eq_true rfl) dX2_cardWith_41 ⟨Nat.le_refl _, Nat.le_refl _⟩ (fun H locs hR hS => ?_)
        exact kM2 ls _ _ (lv_sub hl [] rfl) hR hS
      · try simp only [if_neg hc] at kM2
        refine lv_iconst (v := (-1)) hx hb dX2_cardWith_35 rfl ?_
        refine lv_goto (tgt := 44) hx hb dX2_cardWith_36 rfl ?_
        exact kM2 ls _ _ (lv_sub hl [] rfl) hR hS
def f_X2_placeAt_51 (a : Nat) (h : XH) : Option Int32 := some (-1)
def f_X2_placeAt (a : Nat) (h : XH) (v1 : Int32) (v2 : Int32) : Option Int32 := if (h.1 a 3) = 0 then f_X2_placeAt_51 a h else if (h.1 (a + 1) 0) = v1 then if (v2 - (h.1 (a + 1) 1)) < 0 then f_X2_placeAt_51 a h else Option.bind (f_X2_placesBy a h (h.1 (a + 1) 2)) (fun v_1 => some (if v_1 ≤ (v2 - (h.1 (a + 1) 1)) then (-1) else (v2 - (h.1 (a + 1) 1)))) else f_X2_placeAt_51 a h
set_option maxRecDepth 20000 in
theorem B_X2_placeAt_51 {p : Program} {l : Launch} {e : Env} {s : State} {m : MethodId} {args : Array Value} {below : List Frame} {meth : Method} {c : Code} {O : XO} {K : XK} {a : Nat} {h : XH} {r : Int32} (k0 : K a = (3, 0))  (C : x_C p s m args meth c O cX2_placeAt 4 RX2 (some .int))   (ls : Array Slot) (H : Heap) (locs : List Loc) (hl : lv_has ls 4 []) (hR : x_R O K h H) (hS : va_S (oA O) s.heap H locs) (hf : f_X2_placeAt_51 a h = some r) : W p l e (x_rm 1 21) s m args below meth c H locs 0 0 (MQ below (x_Qc O K h (some (.int r))) args s 0 0 (oA O)) (F0 m 51 ls []) := by
  have hx := C.1
  have hb := C.2.1
  rw [f_X2_placeAt_51] at hf
  refine lv_iconst (v := (-1)) hx hb dX2_placeAt_51 rfl ?_
  cases hf
  exact x_iret C hR hS dX2_placeAt_52
set_option maxRecDepth 20000 in
theorem S_X2_placeAt {l : Launch} {O : XO} {K : XK} {h : XH} {a : Nat} {v1 : Int32} {v2 : Int32}  {r : Int32} (k0 : K a = (3, 0)) (hf : f_X2_placeAt a h v1 v2 = some r) : x_M l O K yX2_placeAt cX2_placeAt 4 (some .int) 1 21 h [.ref a, .int v1, .int v2] (some (.int r)) h := by
  refine x_enter (by decide) (Nat.le_of_ble_eq_true rfl) (fun p e s m args below meth c C hR ls hl => ?_)
  have hS : va_S (oA O) s.heap s.heap [] := va_S.rf
  have hx := C.1
  have hb := C.2.1
  have hl : lv_has ls 4 [(0, .ref a), (1, .int v1), (2, .int v2)] := hl
  rw [f_X2_placeAt] at hf
  refine lv_iload_n hx hb dX2_placeAt_0 rfl (lv_at hl 2 rfl) ?_
  refine lv_aload_n hx hb dX2_placeAt_1 rfl (lv_at hl 0 rfl) ?_
  refine gf_2_4 C hR k0 tw_262 dX2_placeAt_2 ?_
  refine gf_4_1 C hR (kf_2_1 hR k0) tw_217 dX2_placeAt_5 ?_
  refine lv_isub hx hb dX2_placeAt_8 ?_
  refine lv_istore_n (lv' := [(3, _), (0, _), (1, _), (2, _)]) hx hb dX2_placeAt_9 rfl hl (Nat.le_of_ble_eq_true rfl) rfl (fun ls hl => ?_)
  refine lv_aload_n hx hb dX2_placeAt_10 rfl (lv_at hl 1 rfl) ?_
  refine gf_2_3 C hR k0 tw_257 dX2_placeAt_11 ?_
  refine lv_if_eq (tgt := 51) hx hb dX2_placeAt_14 rfl (fun hc => ?_) (fun hc => ?_)
  · have hf := x_ip hc hf
    exact B_X2_placeAt_51 k0 C   ls _ _   (lv_sub hl [] rfl) hR hS hf
  · have hf := x_in hc hf
    refine lv_aload_n hx hb dX2_placeAt_17 rfl (lv_at hl 1 rfl) ?_
    refine gf_2_4 C hR k0 tw_262 dX2_placeAt_18 ?_
    refine gf_4_0 C hR (kf_2_1 hR k0) tw_212 dX2_placeAt_21 ?_
    refine lv_iload_n hx hb dX2_placeAt_24 rfl (lv_at hl 2 rfl) ?_
    refine lv_icmp_ne (tgt := 51) hx hb dX2_placeAt_25 rfl (fun hc => ?_) (fun hc => ?_)
    · have hf := x_in hc hf
      exact B_X2_placeAt_51 k0 C   ls _ _   (lv_sub hl [] rfl) hR hS hf
    · have hf := x_ip hc hf
      refine lv_iload_n hx hb dX2_placeAt_28 rfl (lv_at hl 0 rfl) ?_
      refine lv_if_lt (tgt := 51) hx hb dX2_placeAt_29 rfl (fun hc => ?_) (fun hc => ?_)
      · have hf := x_ip hc hf
        exact B_X2_placeAt_51 k0 C   ls _ _   (lv_sub hl [] rfl) hR hS hf
      · have hf := x_in hc hf
        refine lv_iload_n hx hb dX2_placeAt_32 rfl (lv_at hl 0 rfl) ?_
        refine lv_aload_n hx hb dX2_placeAt_33 rfl (lv_at hl 1 rfl) ?_
        refine lv_aload_n hx hb dX2_placeAt_34 rfl (lv_at hl 1 rfl) ?_
        refine gf_2_4 C hR k0 tw_262 dX2_placeAt_35 ?_
        refine gf_4_2 C hR (kf_2_1 hR k0) tw_220 dX2_placeAt_38 ?_
        obtain ⟨v_1, ev_1, hf⟩ := x_bd hf
        refine x_cVi1 C hR hS (S_X2_placesBy k0 ev_1) k0 (by decide) rfl mf_X2_placesBy tw_1043 (Nat.le_of_ble_eq_true rfl) (Nat.le_of_ble_eq_true rfl) hl.1 (Nat.le_of_ble_eq_true rfl) dX2_placeAt_41 ⟨Nat.le_refl _, Nat.le_refl _⟩ (fun H locs hR hS => ?_)
        have kM2 : ∀ (ls : Array Slot) (H : Heap) (locs : List Loc), lv_has ls 4 [] → x_R O K h H → va_S (oA O) s.heap H locs → W p l e (x_rm 1 21) s m args below meth c H locs 0 0 (MQ below (x_Qc O K h (some (.int r))) args s 0 0 (oA O)) (F0 m 52 ls [.int (if v_1 ≤ (v2 - (h.1 (a + 1) 1)) then (-1) else (v2 - (h.1 (a + 1) 1)))]) := by
          intro ls H locs hl hR hS
          cases hf
          exact x_iret C hR hS dX2_placeAt_52
        refine lv_icmp_ge (tgt := 51) hx hb dX2_placeAt_44 rfl (fun hc => ?_) (fun hc => ?_)
        · try simp only [if_pos hc] at kM2
          refine lv_iconst (v := (-1)) hx hb dX2_placeAt_51 rfl ?_
          exact kM2 ls _ _ (lv_sub hl [] rfl) hR hS
        · try simp only [if_neg hc] at kM2
          refine lv_iload_n hx hb dX2_placeAt_47 rfl (lv_at hl 0 rfl) ?_
          refine lv_goto (tgt := 52) hx hb dX2_placeAt_48 rfl ?_
          exact kM2 ls _ _ (lv_sub hl [] rfl) hR hS
def f_X2_rightOnes_4 (a : Nat) (h : XH) : Nat → Int32 → Int32 → Option Int32
  | 0, _, _ => none
  | n + 1, v1, v2 => if (h.1 a 2) ≤ v2 then some v1 else if x_b v2 52 = true then x_let ((v1 + (if (h.1 (a + 2) v2.toNatClampNeg) = (f_X2_cardAt a h v2) then 1 else 0)) : Int32) (fun t3 => f_X2_rightOnes_4 a h n t3 (v2 + 1)) else none
def f_X2_rightOnes (a : Nat) (h : XH) : Option Int32 := f_X2_rightOnes_4 a h x_FU 0 0
set_option maxRecDepth 20000 in
theorem B_X2_rightOnes_4 {p : Program} {l : Launch} {e : Env} {s : State} {m : MethodId} {args : Array Value} {below : List Frame} {meth : Method} {c : Code} {O : XO} {K : XK} {a : Nat} {h : XH} {r : Int32} (k0 : K a = (3, 0))  (C : x_C p s m args meth c O cX2_rightOnes 3 RX2 (some .int))   : ∀ (n : Nat) (ls : Array Slot) (H : Heap) (locs : List Loc) (v1 : Int32) (v2 : Int32) (hl : lv_has ls 3 [(0, .ref a), (1, .int v1), (2, .int v2)]) (hR : x_R O K h H) (hS : va_S (oA O) s.heap H locs) (hf : f_X2_rightOnes_4 a h n v1 v2 = some r), W p l e (x_rm 1 21) s m args below meth c H locs 0 0 (MQ below (x_Qc O K h (some (.int r))) args s 0 0 (oA O)) (F0 m 4 ls []) := by
  have hx := C.1
  have hb := C.2.1
  intro n
  induction n with
  | zero =>
    intro ls H locs v1 v2 hl hR hS hf
    rw [f_X2_rightOnes_4] at hf
    cases hf
  | succ n ih =>
    intro ls H locs v1 v2 hl hR hS hf
    rw [f_X2_rightOnes_4] at hf
    refine lv_iload_n hx hb dX2_rightOnes_4 rfl (lv_at hl 2 rfl) ?_
    refine lv_aload_n hx hb dX2_rightOnes_5 rfl (lv_at hl 0 rfl) ?_
    refine gf_2_2 C hR k0 tw_252 dX2_rightOnes_6 ?_
    refine lv_icmp_ge (tgt := 40) hx hb dX2_rightOnes_9 rfl (fun hc => ?_) (fun hc => ?_)
    · have hf := x_ip hc hf
      refine lv_iload_n hx hb dX2_rightOnes_40 rfl (lv_at hl 1 rfl) ?_
      cases hf
      exact x_iret C hR hS dX2_rightOnes_41
    · have hf := x_in hc hf
      refine lv_iload_n hx hb dX2_rightOnes_12 rfl (lv_at hl 1 rfl) ?_
      refine lv_aload_n hx hb dX2_rightOnes_13 rfl (lv_at hl 0 rfl) ?_
      refine gf_2_5 C hR k0 tw_267 dX2_rightOnes_14 ?_
      refine lv_iload_n hx hb dX2_rightOnes_17 rfl (lv_at hl 2 rfl) ?_
      obtain ⟨g1, hf⟩ := x_gd hf
      refine x_iald C hR (x_k1 (kf_2_2 hR k0)) (x_k2 (kf_2_2 hR k0) g1) dX2_rightOnes_18 ?_
      refine lv_aload_n hx hb dX2_rightOnes_19 rfl (lv_at hl 0 rfl) ?_
      refine lv_iload_n hx hb dX2_rightOnes_20 rfl (lv_at hl 2 rfl) ?_
      refine x_cVi1 C hR hS (S_X2_cardAt k0 rfl) k0 (by decide) rfl mf_X2_cardAt tw_618 (Nat.le_of_ble_eq_true rfl) (Nat.le_of_ble_eq_true rfl) hl.1 (Nat.le_of_ble_eq_true rfl) dX2_rightOnes_21 ⟨Nat.le_refl _, Nat.le_refl _⟩ (fun H locs hR hS => ?_)
      have kM2 : ∀ (ls : Array Slot) (H : Heap) (locs : List Loc), lv_has ls 3 [(0, .ref a), (2, .int v2)] → x_R O K h H → va_S (oA O) s.heap H locs → W p l e (x_rm 1 21) s m args below meth c H locs 0 0 (MQ below (x_Qc O K h (some (.int r))) args s 0 0 (oA O)) (F0 m 32 ls [.int (if (h.1 (a + 2) v2.toNatClampNeg) = (f_X2_cardAt a h v2) then 1 else 0), .int v1]) := by
        intro ls H locs hl hR hS
        refine lv_iadd hx hb dX2_rightOnes_32 ?_
        obtain ⟨t3, et3, hf⟩ := x_lt hf
        refine x_nmi et3 ?_
        refine lv_istore_n (lv' := [(1, _), (0, _), (2, _)]) hx hb dX2_rightOnes_33 rfl hl (Nat.le_of_ble_eq_true rfl) rfl (fun ls hl => ?_)
        refine lv_iinc (k := 2) (v := _ + 1) (lv' := [(2, _), (1, _), (0, _)]) hx hb dX2_rightOnes_34 hl rfl (x_inc 1 1 rfl _) (Nat.le_of_ble_eq_true rfl) rfl (fun ls hl => ?_)
        refine lv_goto (tgt := 4) hx hb dX2_rightOnes_37 rfl ?_
        exact ih ls _ _ _ _  (lv_sub hl [2, 1, 0] rfl) hR hS hf
      refine lv_icmp_ne (tgt := 31) hx hb dX2_rightOnes_24 rfl (fun hc => ?_) (fun hc => ?_)
      · try simp only [if_neg hc] at kM2
        refine lv_iconst (v := 0) hx hb dX2_rightOnes_31 rfl ?_
        exact kM2 ls _ _ (lv_sub hl [0, 2] rfl) hR hS
      · try simp only [if_pos hc] at kM2
        refine lv_iconst (v := 1) hx hb dX2_rightOnes_27 rfl ?_
        refine lv_goto (tgt := 32) hx hb dX2_rightOnes_28 rfl ?_
        exact kM2 ls _ _ (lv_sub hl [0, 2] rfl) hR hS
set_option maxRecDepth 20000 in
theorem S_X2_rightOnes {l : Launch} {O : XO} {K : XK} {h : XH} {a : Nat}  {r : Int32} (k0 : K a = (3, 0)) (hf : f_X2_rightOnes a h = some r) : x_M l O K yX2_rightOnes cX2_rightOnes 3 (some .int) 1 21 h [.ref a] (some (.int r)) h := by
  refine x_enter (by decide) (Nat.le_of_ble_eq_true rfl) (fun p e s m args below meth c C hR ls hl => ?_)
  have hS : va_S (oA O) s.heap s.heap [] := va_S.rf
  have hx := C.1
  have hb := C.2.1
  have hl : lv_has ls 3 [(0, .ref a)] := hl
  rw [f_X2_rightOnes] at hf
  refine lv_iconst (v := 0) hx hb dX2_rightOnes_0 rfl ?_
  refine lv_istore_n (lv' := [(1, _), (0, _)]) hx hb dX2_rightOnes_1 rfl hl (Nat.le_of_ble_eq_true rfl) rfl (fun ls hl => ?_)
  refine lv_iconst (v := 0) hx hb dX2_rightOnes_2 rfl ?_
  refine lv_istore_n (lv' := [(2, _), (1, _), (0, _)]) hx hb dX2_rightOnes_3 rfl hl (Nat.le_of_ble_eq_true rfl) rfl (fun ls hl => ?_)
  exact B_X2_rightOnes_4 k0 C  x_FU ls _ _ _ _  (lv_sub hl [2, 1, 0] rfl) hR hS hf
def f_X2_blanks_4 (a : Nat) (h : XH) : Nat → Int32 → Int32 → Option Int32
  | 0, _, _ => none
  | n + 1, v1, v2 => if (h.1 a 2) ≤ v2 then some v1 else if x_b v2 52 = true then x_let ((v1 + (if (h.1 (a + 2) v2.toNatClampNeg) = (-1) then 1 else 0)) : Int32) (fun t3 => f_X2_blanks_4 a h n t3 (v2 + 1)) else none
def f_X2_blanks (a : Nat) (h : XH) : Option Int32 := f_X2_blanks_4 a h x_FU 0 0
set_option maxRecDepth 20000 in
theorem B_X2_blanks_4 {p : Program} {l : Launch} {e : Env} {s : State} {m : MethodId} {args : Array Value} {below : List Frame} {meth : Method} {c : Code} {O : XO} {K : XK} {a : Nat} {h : XH} {r : Int32} (k0 : K a = (3, 0))  (C : x_C p s m args meth c O cX2_blanks 3 RX2 (some .int))   : ∀ (n : Nat) (ls : Array Slot) (H : Heap) (locs : List Loc) (v1 : Int32) (v2 : Int32) (hl : lv_has ls 3 [(0, .ref a), (1, .int v1), (2, .int v2)]) (hR : x_R O K h H) (hS : va_S (oA O) s.heap H locs) (hf : f_X2_blanks_4 a h n v1 v2 = some r), W p l e (x_rm 0 0) s m args below meth c H locs 0 0 (MQ below (x_Qc O K h (some (.int r))) args s 0 0 (oA O)) (F0 m 4 ls []) := by
  have hx := C.1
  have hb := C.2.1
  intro n
  induction n with
  | zero =>
    intro ls H locs v1 v2 hl hR hS hf
    rw [f_X2_blanks_4] at hf
    cases hf
  | succ n ih =>
    intro ls H locs v1 v2 hl hR hS hf
    rw [f_X2_blanks_4] at hf
    refine lv_iload_n hx hb dX2_blanks_4 rfl (lv_at hl 2 rfl) ?_
    refine lv_aload_n hx hb dX2_blanks_5 rfl (lv_at hl 0 rfl) ?_
    refine gf_2_2 C hR k0 tw_252 dX2_blanks_6 ?_
    refine lv_icmp_ge (tgt := 36) hx hb dX2_blanks_9 rfl (fun hc => ?_) (fun hc => ?_)
    · have hf := x_ip hc hf
      refine lv_iload_n hx hb dX2_blanks_36 rfl (lv_at hl 1 rfl) ?_
      cases hf
      exact x_iret C hR hS dX2_blanks_37
    · have hf := x_in hc hf
      refine lv_iload_n hx hb dX2_blanks_12 rfl (lv_at hl 1 rfl) ?_
      refine lv_aload_n hx hb dX2_blanks_13 rfl (lv_at hl 0 rfl) ?_
      refine gf_2_5 C hR k0 tw_267 dX2_blanks_14 ?_
      refine lv_iload_n hx hb dX2_blanks_17 rfl (lv_at hl 2 rfl) ?_
      obtain ⟨g1, hf⟩ := x_gd hf
      refine x_iald C hR (x_k1 (kf_2_2 hR k0)) (x_k2 (kf_2_2 hR k0) g1) dX2_blanks_18 ?_
      refine lv_iconst (v := (-1)) hx hb dX2_blanks_19 rfl ?_
      have kM2 : ∀ (ls : Array Slot) (H : Heap) (locs : List Loc), lv_has ls 3 [(0, .ref a), (2, .int v2)] → x_R O K h H → va_S (oA O) s.heap H locs → W p l e (x_rm 0 0) s m args below meth c H locs 0 0 (MQ below (x_Qc O K h (some (.int r))) args s 0 0 (oA O)) (F0 m 28 ls [.int (if (h.1 (a + 2) v2.toNatClampNeg) = (-1) then 1 else 0), .int v1]) := by
        intro ls H locs hl hR hS
        refine lv_iadd hx hb dX2_blanks_28 ?_
        obtain ⟨t3, et3, hf⟩ := x_lt hf
        refine x_nmi et3 ?_
        refine lv_istore_n (lv' := [(1, _), (0, _), (2, _)]) hx hb dX2_blanks_29 rfl hl (Nat.le_of_ble_eq_true rfl) rfl (fun ls hl => ?_)
        refine lv_iinc (k := 2) (v := _ + 1) (lv' := [(2, _), (1, _), (0, _)]) hx hb dX2_blanks_30 hl rfl (x_inc 1 1 rfl _) (Nat.le_of_ble_eq_true rfl) rfl (fun ls hl => ?_)
        refine lv_goto (tgt := 4) hx hb dX2_blanks_33 rfl ?_
        exact ih ls _ _ _ _  (lv_sub hl [2, 1, 0] rfl) hR hS hf
      refine lv_icmp_ne (tgt := 27) hx hb dX2_blanks_20 rfl (fun hc => ?_) (fun hc => ?_)
      · try simp only [if_neg hc] at kM2
        refine lv_iconst (v := 0) hx hb dX2_blanks_27 rfl ?_
        exact kM2 ls _ _ (lv_sub hl [0, 2] rfl) hR hS
      · try simp only [if_pos hc] at kM2
        refine lv_iconst (v := 1) hx hb dX2_blanks_23 rfl ?_
        refine lv_goto (tgt := 28) hx hb dX2_blanks_24 rfl ?_
        exact kM2 ls _ _ (lv_sub hl [0, 2] rfl) hR hS
set_option maxRecDepth 20000 in
theorem S_X2_blanks {l : Launch} {O : XO} {K : XK} {h : XH} {a : Nat}  {r : Int32} (k0 : K a = (3, 0)) (hf : f_X2_blanks a h = some r) : x_M l O K yX2_blanks cX2_blanks 3 (some .int) 0 0 h [.ref a] (some (.int r)) h := by
  refine x_enter (by decide) (Nat.le_of_ble_eq_true rfl) (fun p e s m args below meth c C hR ls hl => ?_)
  have hS : va_S (oA O) s.heap s.heap [] := va_S.rf
  have hx := C.1
  have hb := C.2.1
  have hl : lv_has ls 3 [(0, .ref a)] := hl
  rw [f_X2_blanks] at hf
  refine lv_iconst (v := 0) hx hb dX2_blanks_0 rfl ?_
  refine lv_istore_n (lv' := [(1, _), (0, _)]) hx hb dX2_blanks_1 rfl hl (Nat.le_of_ble_eq_true rfl) rfl (fun ls hl => ?_)
  refine lv_iconst (v := 0) hx hb dX2_blanks_2 rfl ?_
  refine lv_istore_n (lv' := [(2, _), (1, _), (0, _)]) hx hb dX2_blanks_3 rfl hl (Nat.le_of_ble_eq_true rfl) rfl (fun ls hl => ?_)
  exact B_X2_blanks_4 k0 C  x_FU ls _ _ _ _  (lv_sub hl [2, 1, 0] rfl) hR hS hf
def f_X2_saidCards_35 (k4 : Int64 → Int32 → Option Int64) (a : Nat) (h : XH) (v3 : Int32) (s0 : Int64) (s1 : Int64) : Option Int64 := k4 (s0 ||| s1) (v3 + 1)
def f_X2_saidCards_4 (a : Nat) (h : XH) : Nat → Int64 → Int32 → Option Int64
  | 0, _, _ => none
  | n + 1, v1, v3 => if (h.1 a 2) ≤ v3 then some v1 else if x_b v3 52 = true then if (h.1 (a + 2) v3.toNatClampNeg) = (-1) then f_X2_saidCards_35 (f_X2_saidCards_4 a h n) a h v3 v1 0 else if x_b v3 52 = true then f_X2_saidCards_35 (f_X2_saidCards_4 a h n) a h v3 v1 (x_lshl 1 (h.1 (a + 2) v3.toNatClampNeg)) else none else none
def f_X2_saidCards (a : Nat) (h : XH) : Option Int64 := f_X2_saidCards_4 a h x_FU 0 0
set_option maxRecDepth 20000 in
theorem B_X2_saidCards_35 {p : Program} {l : Launch} {e : Env} {s : State} {m : MethodId} {args : Array Value} {below : List Frame} {meth : Method} {c : Code} {O : XO} {K : XK} {a : Nat} {h : XH} {r : Int64} (k0 : K a = (3, 0)) {k4 : Int64 → Int32 → Option Int64} (C : x_C p s m args meth c O cX2_saidCards 4 RX2 (some .long)) (hk4 : ∀ (ls : Array Slot) (H : Heap) (locs : List Loc) (v1 : Int64) (v3 : Int32), lv_has ls 4 [(0, .ref a), (1, .long v1), (3, .int v3)] → x_R O K h H → va_S (oA O) s.heap H locs → k4 v1 v3 = some r → W p l e (x_rm 0 0) s m args below meth c H locs 0 0 (MQ below (x_Qc O K h (some (.long r))) args s 0 0 (oA O)) (F0 m 4 ls []))  (ls : Array Slot) (H : Heap) (locs : List Loc) (v3 : Int32) (s0 : Int64) (s1 : Int64) (hl : lv_has ls 4 [(0, .ref a), (3, .int v3)]) (hR : x_R O K h H) (hS : va_S (oA O) s.heap H locs) (hf : f_X2_saidCards_35 k4 a h v3 s0 s1 = some r) : W p l e (x_rm 0 0) s m args below meth c H locs 0 0 (MQ below (x_Qc O K h (some (.long r))) args s 0 0 (oA O)) (F0 m 35 ls [.long s1, .long s0]) := by
  have hx := C.1
  have hb := C.2.1
  rw [f_X2_saidCards_35] at hf
  refine lv_lor hx hb dX2_saidCards_35 ?_
  refine lv_lstore_n (lv' := [(1, _), (0, _), (3, _)]) hx hb dX2_saidCards_36 rfl hl (Nat.le_of_ble_eq_true rfl) rfl (fun ls hl => ?_)
  refine lv_iinc (k := 2) (v := _ + 1) (lv' := [(3, _), (1, _), (0, _)]) hx hb dX2_saidCards_37 hl rfl (x_inc 1 1 rfl _) (Nat.le_of_ble_eq_true rfl) rfl (fun ls hl => ?_)
  refine lv_goto (tgt := 4) hx hb dX2_saidCards_40 rfl ?_
  exact hk4 ls _ _ _ _  (lv_sub hl [2, 1, 0] rfl) hR hS hf
set_option maxRecDepth 20000 in
theorem B_X2_saidCards_4 {p : Program} {l : Launch} {e : Env} {s : State} {m : MethodId} {args : Array Value} {below : List Frame} {meth : Method} {c : Code} {O : XO} {K : XK} {a : Nat} {h : XH} {r : Int64} (k0 : K a = (3, 0))  (C : x_C p s m args meth c O cX2_saidCards 4 RX2 (some .long))   : ∀ (n : Nat) (ls : Array Slot) (H : Heap) (locs : List Loc) (v1 : Int64) (v3 : Int32) (hl : lv_has ls 4 [(0, .ref a), (1, .long v1), (3, .int v3)]) (hR : x_R O K h H) (hS : va_S (oA O) s.heap H locs) (hf : f_X2_saidCards_4 a h n v1 v3 = some r), W p l e (x_rm 0 0) s m args below meth c H locs 0 0 (MQ below (x_Qc O K h (some (.long r))) args s 0 0 (oA O)) (F0 m 4 ls []) := by
  have hx := C.1
  have hb := C.2.1
  intro n
  induction n with
  | zero =>
    intro ls H locs v1 v3 hl hR hS hf
    rw [f_X2_saidCards_4] at hf
    cases hf
  | succ n ih =>
    intro ls H locs v1 v3 hl hR hS hf
    rw [f_X2_saidCards_4] at hf
    refine lv_iload_n hx hb dX2_saidCards_4 rfl (lv_at hl 2 rfl) ?_
    refine lv_aload_n hx hb dX2_saidCards_5 rfl (lv_at hl 0 rfl) ?_
    refine gf_2_2 C hR k0 tw_252 dX2_saidCards_6 ?_
    refine lv_icmp_ge (tgt := 43) hx hb dX2_saidCards_9 rfl (fun hc => ?_) (fun hc => ?_)
    · have hf := x_ip hc hf
      refine lv_lload_n hx hb dX2_saidCards_43 rfl (lv_at hl 1 rfl) ?_
      cases hf
      exact x_lret C hR hS dX2_saidCards_44
    · have hf := x_in hc hf
      refine lv_lload_n hx hb dX2_saidCards_12 rfl (lv_at hl 1 rfl) ?_
      refine lv_aload_n hx hb dX2_saidCards_13 rfl (lv_at hl 0 rfl) ?_
      refine gf_2_5 C hR k0 tw_267 dX2_saidCards_14 ?_
      refine lv_iload_n hx hb dX2_saidCards_17 rfl (lv_at hl 2 rfl) ?_
      obtain ⟨g1, hf⟩ := x_gd hf
      refine x_iald C hR (x_k1 (kf_2_2 hR k0)) (x_k2 (kf_2_2 hR k0) g1) dX2_saidCards_18 ?_
      refine lv_iconst (v := (-1)) hx hb dX2_saidCards_19 rfl ?_
      refine lv_icmp_ne (tgt := 27) hx hb dX2_saidCards_20 rfl (fun hc => ?_) (fun hc => ?_)
      · have hf := x_in hc hf
        refine lv_lconst (v := 1) hx hb dX2_saidCards_27 rfl ?_
        refine lv_aload_n hx hb dX2_saidCards_28 rfl (lv_at hl 0 rfl) ?_
        refine gf_2_5 C hR k0 tw_267 dX2_saidCards_29 ?_
        refine lv_iload_n hx hb dX2_saidCards_32 rfl (lv_at hl 2 rfl) ?_
        obtain ⟨g2, hf⟩ := x_gd hf
        refine x_iald C hR (x_k1 (kf_2_2 hR k0)) (x_k2 (kf_2_2 hR k0) g2) dX2_saidCards_33 ?_
        refine lv_lshl hx hb dX2_saidCards_34 rfl ?_
        exact B_X2_saidCards_35 k0 C ih  ls _ _ _ _ _  (lv_sub hl [0, 2] rfl) hR hS hf
      · have hf := x_ip hc hf
        refine lv_lconst (v := 0) hx hb dX2_saidCards_23 rfl ?_
        refine lv_goto (tgt := 35) hx hb dX2_saidCards_24 rfl ?_
        exact B_X2_saidCards_35 k0 C ih  ls _ _ _ _ _  (lv_sub hl [0, 2] rfl) hR hS hf
set_option maxRecDepth 20000 in
theorem S_X2_saidCards {l : Launch} {O : XO} {K : XK} {h : XH} {a : Nat}  {r : Int64} (k0 : K a = (3, 0)) (hf : f_X2_saidCards a h = some r) : x_M l O K yX2_saidCards cX2_saidCards 4 (some .long) 0 0 h [.ref a] (some (.long r)) h := by
  refine x_enter (by decide) (Nat.le_of_ble_eq_true rfl) (fun p e s m args below meth c C hR ls hl => ?_)
  have hS : va_S (oA O) s.heap s.heap [] := va_S.rf
  have hx := C.1
  have hb := C.2.1
  have hl : lv_has ls 4 [(0, .ref a)] := hl
  rw [f_X2_saidCards] at hf
  refine lv_lconst (v := 0) hx hb dX2_saidCards_0 rfl ?_
  refine lv_lstore_n (lv' := [(1, _), (0, _)]) hx hb dX2_saidCards_1 rfl hl (Nat.le_of_ble_eq_true rfl) rfl (fun ls hl => ?_)
  refine lv_iconst (v := 0) hx hb dX2_saidCards_2 rfl ?_
  refine lv_istore_n (lv' := [(3, _), (1, _), (0, _)]) hx hb dX2_saidCards_3 rfl hl (Nat.le_of_ble_eq_true rfl) rfl (fun ls hl => ?_)
  exact B_X2_saidCards_4 k0 C  x_FU ls _ _ _ _  (lv_sub hl [2, 1, 0] rfl) hR hS hf
def f_X2_lackCount_10 (a : Nat) (h : XH) : Nat → Int64 → Int32 → Int32 → Option Int32
  | 0, _, _, _ => none
  | n + 1, v1, v3, v4 => if (h.1 a 2) ≤ v4 then some v3 else x_let ((v3 + (if (lg_cmp ((x_lshr v1 (f_X2_cardAt a h v4)) &&& 1) 0) = 0 then 1 else 0)) : Int32) (fun t3 => f_X2_lackCount_10 a h n v1 t3 (v4 + 1))
def f_X2_lackCount (a : Nat) (h : XH) : Option Int32 := Option.bind (f_X2_saidCards a h) (fun v_1 => f_X2_lackCount_10 a h x_FU v_1 0 0)
set_option maxRecDepth 20000 in
theorem B_X2_lackCount_10 {p : Program} {l : Launch} {e : Env} {s : State} {m : MethodId} {args : Array Value} {below : List Frame} {meth : Method} {c : Code} {O : XO} {K : XK} {a : Nat} {h : XH} {r : Int32} (k0 : K a = (3, 0))  (C : x_C p s m args meth c O cX2_lackCount 5 RX2 (some .int))   : ∀ (n : Nat) (ls : Array Slot) (H : Heap) (locs : List Loc) (v1 : Int64) (v3 : Int32) (v4 : Int32) (hl : lv_has ls 5 [(0, .ref a), (1, .long v1), (3, .int v3), (4, .int v4)]) (hR : x_R O K h H) (hS : va_S (oA O) s.heap H locs) (hf : f_X2_lackCount_10 a h n v1 v3 v4 = some r), W p l e (x_rm 1 23) s m args below meth c H locs 0 0 (MQ below (x_Qc O K h (some (.int r))) args s 0 0 (oA O)) (F0 m 10 ls []) := by
  have hx := C.1
  have hb := C.2.1
  intro n
  induction n with
  | zero =>
    intro ls H locs v1 v3 v4 hl hR hS hf
    rw [f_X2_lackCount_10] at hf
    cases hf
  | succ n ih =>
    intro ls H locs v1 v3 v4 hl hR hS hf
    rw [f_X2_lackCount_10] at hf
    refine lv_iload hx hb dX2_lackCount_10 (lv_at hl 3 rfl) ?_
    refine lv_aload_n hx hb dX2_lackCount_12 rfl (lv_at hl 0 rfl) ?_
    refine gf_2_2 C hR k0 tw_252 dX2_lackCount_13 ?_
    refine lv_icmp_ge (tgt := 48) hx hb dX2_lackCount_16 rfl (fun hc => ?_) (fun hc => ?_)
    · have hf := x_ip hc hf
      refine lv_iload_n hx hb dX2_lackCount_48 rfl (lv_at hl 2 rfl) ?_
      cases hf
      exact x_iret C hR hS dX2_lackCount_49
    · have hf := x_in hc hf
      refine lv_iload_n hx hb dX2_lackCount_19 rfl (lv_at hl 2 rfl) ?_
      refine lv_lload_n hx hb dX2_lackCount_20 rfl (lv_at hl 1 rfl) ?_
      refine lv_aload_n hx hb dX2_lackCount_21 rfl (lv_at hl 0 rfl) ?_
      refine lv_iload hx hb dX2_lackCount_22 (lv_at hl 3 rfl) ?_
      refine x_cVi1 C hR hS (S_X2_cardAt k0 rfl) k0 (by decide) rfl mf_X2_cardAt tw_618 (Nat.le_of_ble_eq_true rfl) (Nat.le_of_ble_eq_true rfl) hl.1 (Nat.le_of_ble_eq_true rfl) dX2_lackCount_24 ⟨Nat.le_refl _, Nat.le_refl _⟩ (fun H locs hR hS => ?_)
      refine lv_lshr hx hb dX2_lackCount_27 rfl ?_
      refine lv_lconst (v := 1) hx hb dX2_lackCount_28 rfl ?_
      refine lv_land hx hb dX2_lackCount_29 ?_
      refine lv_lconst (v := 0) hx hb dX2_lackCount_30 rfl ?_
      refine W.lcmp hx hb dX2_lackCount_31 ?_
      have kM2 : ∀ (ls : Array Slot) (H : Heap) (locs : List Loc), lv_has ls 5 [(0, .ref a), (1, .long v1), (4, .int v4)] → x_R O K h H → va_S (oA O) s.heap H locs → W p l e (x_rm 1 23) s m args below meth c H locs 0 0 (MQ below (x_Qc O K h (some (.int r))) args s 0 0 (oA O)) (F0 m 40 ls [.int (if (lg_cmp ((x_lshr v1 (f_X2_cardAt a h v4)) &&& 1) 0) = 0 then 1 else 0), .int v3]) := by
        intro ls H locs hl hR hS
        refine lv_iadd hx hb dX2_lackCount_40 ?_
        obtain ⟨t3, et3, hf⟩ := x_lt hf
        refine x_nmi et3 ?_
        refine lv_istore_n (lv' := [(3, _), (0, _), (1, _), (4, _)]) hx hb dX2_lackCount_41 rfl hl (Nat.le_of_ble_eq_true rfl) rfl (fun ls hl => ?_)
        refine lv_iinc (k := 3) (v := _ + 1) (lv' := [(4, _), (3, _), (0, _), (1, _)]) hx hb dX2_lackCount_42 hl rfl (x_inc 1 1 rfl _) (Nat.le_of_ble_eq_true rfl) rfl (fun ls hl => ?_)
        refine lv_goto (tgt := 10) hx hb dX2_lackCount_45 rfl ?_
        exact ih ls _ _ _ _ _  (lv_sub hl [2, 3, 1, 0] rfl) hR hS hf
      refine lv_if_ne (tgt := 39) hx hb dX2_lackCount_32 rfl (fun hc => ?_) (fun hc => ?_)
      · try simp only [if_neg hc] at kM2
        refine lv_iconst (v := 0) hx hb dX2_lackCount_39 rfl ?_
        exact kM2 ls _ _ (lv_sub hl [0, 1, 3] rfl) hR hS
      · try simp only [if_pos hc] at kM2
        refine lv_iconst (v := 1) hx hb dX2_lackCount_35 rfl ?_
        refine lv_goto (tgt := 40) hx hb dX2_lackCount_36 rfl ?_
        exact kM2 ls _ _ (lv_sub hl [0, 1, 3] rfl) hR hS
set_option maxRecDepth 20000 in
theorem S_X2_lackCount {l : Launch} {O : XO} {K : XK} {h : XH} {a : Nat}  {r : Int32} (k0 : K a = (3, 0)) (hf : f_X2_lackCount a h = some r) : x_M l O K yX2_lackCount cX2_lackCount 5 (some .int) 1 23 h [.ref a] (some (.int r)) h := by
  refine x_enter (by decide) (Nat.le_of_ble_eq_true rfl) (fun p e s m args below meth c C hR ls hl => ?_)
  have hS : va_S (oA O) s.heap s.heap [] := va_S.rf
  have hx := C.1
  have hb := C.2.1
  have hl : lv_has ls 5 [(0, .ref a)] := hl
  rw [f_X2_lackCount] at hf
  refine lv_aload_n hx hb dX2_lackCount_0 rfl (lv_at hl 0 rfl) ?_
  obtain ⟨v_1, ev_1, hf⟩ := x_bd hf
  refine x_cVl0 C hR hS (S_X2_saidCards k0 ev_1) k0 (by decide) rfl mf_X2_saidCards tw_1301 (Nat.le_of_ble_eq_true rfl) (Nat.le_of_ble_eq_true rfl) hl.1 (Nat.le_of_ble_eq_true rfl) dX2_lackCount_1 ⟨Nat.le_refl _, Nat.le_refl _⟩ (fun H locs hR hS => ?_)
  refine lv_lstore_n (lv' := [(1, _), (0, _)]) hx hb dX2_lackCount_4 rfl hl (Nat.le_of_ble_eq_true rfl) rfl (fun ls hl => ?_)
  refine lv_iconst (v := 0) hx hb dX2_lackCount_5 rfl ?_
  refine lv_istore_n (lv' := [(3, _), (1, _), (0, _)]) hx hb dX2_lackCount_6 rfl hl (Nat.le_of_ble_eq_true rfl) rfl (fun ls hl => ?_)
  refine lv_iconst (v := 0) hx hb dX2_lackCount_7 rfl ?_
  refine lv_istore (lv' := [(4, _), (3, _), (1, _), (0, _)]) hx hb dX2_lackCount_8 hl (Nat.le_of_ble_eq_true rfl) rfl (fun ls hl => ?_)
  exact B_X2_lackCount_10 k0 C  x_FU ls _ _ _ _ _  (lv_sub hl [3, 2, 1, 0] rfl) hR hS hf
def f_X2_lackAt_51 (k11 : Int32 → Int64 → Int32 → Int32 → Option Int32) (a : Nat) (h : XH) (v1 : Int32) (v2 : Int64) (v4 : Int32) (v5 : Int32) : Option Int32 := k11 v1 v2 v4 (v5 + 1)
def f_X2_lackAt_11 (a : Nat) (h : XH) : Nat → Int32 → Int64 → Int32 → Int32 → Option Int32
  | 0, _, _, _, _ => none
  | n + 1, v1, v2, v4, v5 => if (h.1 a 2) ≤ v5 then some (-1) else if (lg_cmp ((x_lshr v2 (f_X2_cardAt a h v5)) &&& 1) 0) = 0 then if v4 = v1 then some (f_X2_cardAt a h v5) else f_X2_lackAt_51 (f_X2_lackAt_11 a h n) a h v1 v2 (v4 + 1) v5 else f_X2_lackAt_51 (f_X2_lackAt_11 a h n) a h v1 v2 v4 v5
def f_X2_lackAt (a : Nat) (h : XH) (v1 : Int32) : Option Int32 := Option.bind (f_X2_saidCards a h) (fun v_1 => f_X2_lackAt_11 a h x_FU v1 v_1 0 0)
set_option maxRecDepth 20000 in
theorem B_X2_lackAt_51 {p : Program} {l : Launch} {e : Env} {s : State} {m : MethodId} {args : Array Value} {below : List Frame} {meth : Method} {c : Code} {O : XO} {K : XK} {a : Nat} {h : XH} {r : Int32} (k0 : K a = (3, 0)) {k11 : Int32 → Int64 → Int32 → Int32 → Option Int32} (C : x_C p s m args meth c O cX2_lackAt 6 RX2 (some .int)) (hk11 : ∀ (ls : Array Slot) (H : Heap) (locs : List Loc) (v1 : Int32) (v2 : Int64) (v4 : Int32) (v5 : Int32), lv_has ls 6 [(0, .ref a), (1, .int v1), (2, .long v2), (4, .int v4), (5, .int v5)] → x_R O K h H → va_S (oA O) s.heap H locs → k11 v1 v2 v4 v5 = some r → W p l e (x_rm 1 23) s m args below meth c H locs 0 0 (MQ below (x_Qc O K h (some (.int r))) args s 0 0 (oA O)) (F0 m 11 ls []))  (ls : Array Slot) (H : Heap) (locs : List Loc) (v1 : Int32) (v2 : Int64) (v4 : Int32) (v5 : Int32) (hl : lv_has ls 6 [(0, .ref a), (1, .int v1), (2, .long v2), (4, .int v4), (5, .int v5)]) (hR : x_R O K h H) (hS : va_S (oA O) s.heap H locs) (hf : f_X2_lackAt_51 k11 a h v1 v2 v4 v5 = some r) : W p l e (x_rm 1 23) s m args below meth c H locs 0 0 (MQ below (x_Qc O K h (some (.int r))) args s 0 0 (oA O)) (F0 m 51 ls []) := by
  have hx := C.1
  have hb := C.2.1
  rw [f_X2_lackAt_51] at hf
  refine lv_iinc (k := 4) (v := _ + 1) (lv' := [(5, _), (0, _), (1, _), (2, _), (4, _)]) hx hb dX2_lackAt_51 hl rfl (x_inc 1 1 rfl _) (Nat.le_of_ble_eq_true rfl) rfl (fun ls hl => ?_)
  refine lv_goto (tgt := 11) hx hb dX2_lackAt_54 rfl ?_
  exact hk11 ls _ _ _ _ _ _  (lv_sub hl [1, 2, 3, 4, 0] rfl) hR hS hf
set_option maxRecDepth 20000 in
theorem B_X2_lackAt_11 {p : Program} {l : Launch} {e : Env} {s : State} {m : MethodId} {args : Array Value} {below : List Frame} {meth : Method} {c : Code} {O : XO} {K : XK} {a : Nat} {h : XH} {r : Int32} (k0 : K a = (3, 0))  (C : x_C p s m args meth c O cX2_lackAt 6 RX2 (some .int))   : ∀ (n : Nat) (ls : Array Slot) (H : Heap) (locs : List Loc) (v1 : Int32) (v2 : Int64) (v4 : Int32) (v5 : Int32) (hl : lv_has ls 6 [(0, .ref a), (1, .int v1), (2, .long v2), (4, .int v4), (5, .int v5)]) (hR : x_R O K h H) (hS : va_S (oA O) s.heap H locs) (hf : f_X2_lackAt_11 a h n v1 v2 v4 v5 = some r), W p l e (x_rm 1 23) s m args below meth c H locs 0 0 (MQ below (x_Qc O K h (some (.int r))) args s 0 0 (oA O)) (F0 m 11 ls []) := by
  have hx := C.1
  have hb := C.2.1
  intro n
  induction n with
  | zero =>
    intro ls H locs v1 v2 v4 v5 hl hR hS hf
    rw [f_X2_lackAt_11] at hf
    cases hf
  | succ n ih =>
    intro ls H locs v1 v2 v4 v5 hl hR hS hf
    rw [f_X2_lackAt_11] at hf
    refine lv_iload hx hb dX2_lackAt_11 (lv_at hl 4 rfl) ?_
    refine lv_aload_n hx hb dX2_lackAt_13 rfl (lv_at hl 0 rfl) ?_
    refine gf_2_2 C hR k0 tw_252 dX2_lackAt_14 ?_
    refine lv_icmp_ge (tgt := 57) hx hb dX2_lackAt_17 rfl (fun hc => ?_) (fun hc => ?_)
    · have hf := x_ip hc hf
      refine lv_iconst (v := (-1)) hx hb dX2_lackAt_57 rfl ?_
      cases hf
      exact x_iret C hR hS dX2_lackAt_58
    · have hf := x_in hc hf
      refine lv_lload_n hx hb dX2_lackAt_20 rfl (lv_at hl 2 rfl) ?_
      refine lv_aload_n hx hb dX2_lackAt_21 rfl (lv_at hl 0 rfl) ?_
      refine lv_iload hx hb dX2_lackAt_22 (lv_at hl 4 rfl) ?_
      refine x_cVi1 C hR hS (S_X2_cardAt k0 rfl) k0 (by decide) rfl mf_X2_cardAt tw_618 (Nat.le_of_ble_eq_true rfl) (Nat.le_of_ble_eq_true rfl) hl.1 (Nat.le_of_ble_eq_true rfl) dX2_lackAt_24 ⟨Nat.le_refl _, Nat.le_refl _⟩ (fun H locs hR hS => ?_)
      refine lv_lshr hx hb dX2_lackAt_27 rfl ?_
      refine lv_lconst (v := 1) hx hb dX2_lackAt_28 rfl ?_
      refine lv_land hx hb dX2_lackAt_29 ?_
      refine lv_lconst (v := 0) hx hb dX2_lackAt_30 rfl ?_
      refine W.lcmp hx hb dX2_lackAt_31 ?_
      refine lv_if_ne (tgt := 51) hx hb dX2_lackAt_32 rfl (fun hc => ?_) (fun hc => ?_)
      · have hf := x_in hc hf
        exact B_X2_lackAt_51 k0 C ih  ls _ _ _ _ _ _  (lv_sub hl [0, 1, 2, 3, 4] rfl) hR hS hf
      · have hf := x_ip hc hf
        refine lv_iload hx hb dX2_lackAt_35 (lv_at hl 3 rfl) ?_
        refine lv_iload_n hx hb dX2_lackAt_37 rfl (lv_at hl 1 rfl) ?_
        refine lv_icmp_ne (tgt := 48) hx hb dX2_lackAt_38 rfl (fun hc => ?_) (fun hc => ?_)
        · have hf := x_in hc hf
          refine lv_iinc (k := 3) (v := _ + 1) (lv' := [(4, _), (0, _), (1, _), (2, _), (5, _)]) hx hb dX2_lackAt_48 hl rfl (x_inc 1 1 rfl _) (Nat.le_of_ble_eq_true rfl) rfl (fun ls hl => ?_)
          exact B_X2_lackAt_51 k0 C ih  ls _ _ _ _ _ _  (lv_sub hl [1, 2, 3, 0, 4] rfl) hR hS hf
        · have hf := x_ip hc hf
          refine lv_aload_n hx hb dX2_lackAt_41 rfl (lv_at hl 0 rfl) ?_
          refine lv_iload hx hb dX2_lackAt_42 (lv_at hl 4 rfl) ?_
          refine x_cVi1 C hR hS (S_X2_cardAt k0 rfl) k0 (by decide) rfl mf_X2_cardAt tw_618 (Nat.le_of_ble_eq_true rfl) (Nat.le_of_ble_eq_true rfl) hl.1 (Nat.le_of_ble_eq_true rfl) dX2_lackAt_44 ⟨Nat.le_refl _, Nat.le_refl _⟩ (fun H locs hR hS => ?_)
          cases hf
          exact x_iret C hR hS dX2_lackAt_47
set_option maxRecDepth 20000 in
theorem S_X2_lackAt {l : Launch} {O : XO} {K : XK} {h : XH} {a : Nat} {v1 : Int32}  {r : Int32} (k0 : K a = (3, 0)) (hf : f_X2_lackAt a h v1 = some r) : x_M l O K yX2_lackAt cX2_lackAt 6 (some .int) 1 23 h [.ref a, .int v1] (some (.int r)) h := by
  refine x_enter (by decide) (Nat.le_of_ble_eq_true rfl) (fun p e s m args below meth c C hR ls hl => ?_)
  have hS : va_S (oA O) s.heap s.heap [] := va_S.rf
  have hx := C.1
  have hb := C.2.1
  have hl : lv_has ls 6 [(0, .ref a), (1, .int v1)] := hl
  rw [f_X2_lackAt] at hf
  refine lv_aload_n hx hb dX2_lackAt_0 rfl (lv_at hl 0 rfl) ?_
  obtain ⟨v_1, ev_1, hf⟩ := x_bd hf
  refine x_cVl0 C hR hS (S_X2_saidCards k0 ev_1) k0 (by decide) rfl mf_X2_saidCards tw_1301 (Nat.le_of_ble_eq_true rfl) (Nat.le_of_ble_eq_true rfl) hl.1 (Nat.le_of_ble_eq_true rfl) dX2_lackAt_1 ⟨Nat.le_refl _, Nat.le_refl _⟩ (fun H locs hR hS => ?_)
  refine lv_lstore_n (lv' := [(2, _), (0, _), (1, _)]) hx hb dX2_lackAt_4 rfl hl (Nat.le_of_ble_eq_true rfl) rfl (fun ls hl => ?_)
  refine lv_iconst (v := 0) hx hb dX2_lackAt_5 rfl ?_
  refine lv_istore (lv' := [(4, _), (2, _), (0, _), (1, _)]) hx hb dX2_lackAt_6 hl (Nat.le_of_ble_eq_true rfl) rfl (fun ls hl => ?_)
  refine lv_iconst (v := 0) hx hb dX2_lackAt_8 rfl ?_
  refine lv_istore (lv' := [(5, _), (4, _), (2, _), (0, _), (1, _)]) hx hb dX2_lackAt_9 hl (Nat.le_of_ble_eq_true rfl) rfl (fun ls hl => ?_)
  exact B_X2_lackAt_11 k0 C  x_FU ls _ _ _ _ _ _  (lv_sub hl [3, 4, 2, 1, 0] rfl) hR hS hf
def f_X3_addPack (x : Nat) (h : XH) (v1 : Int32) : Option (XH) := if 5 ≤ (h.1 (x + 54) 4) then some h else if x_b (h.1 (x + 54) 4) 5 = true then x_let (x_i h (x + 55) (h.1 (x + 54) 4).toNatClampNeg v1) (fun h2 => x_let (x_i h2 (x + 54) 4 ((h2.1 (x + 54) 4) + 1)) (fun h3 => some h3)) else none
set_option maxRecDepth 20000 in
theorem S_X3_addPack {l : Launch} {O : XO} {K : XK} {h : XH} {v1 : Int32}  {h' : XH}  (hf : f_X3_addPack (oX O) h v1 = some h') : x_M l O K yX3_addPack cX3_addPack 2 none 0 0 h [.ref (oX O + 54), .int v1] none h' := by
  refine x_enter (by decide) (Nat.le_of_ble_eq_true rfl) (fun p e s m args below meth c C hR ls hl => ?_)
  have hS : va_S (oA O) s.heap s.heap [] := va_S.rf
  have hx := C.1
  have hb := C.2.1
  have hl : lv_has ls 2 [(0, .ref (oX O + 54)), (1, .int v1)] := hl
  rw [f_X3_addPack] at hf
  refine lv_aload_n hx hb dX3_addPack_0 rfl (lv_at hl 0 rfl) ?_
  refine gf_3_4 C hR (x_k hR 54 rfl) tw_454 dX3_addPack_1 ?_
  refine lv_iconst (v := 5) hx hb dX3_addPack_4 rfl ?_
  refine lv_icmp_ge (tgt := 28) hx hb dX3_addPack_5 rfl (fun hc => ?_) (fun hc => ?_)
  · have hf := x_ip hc hf
    cases hf
    exact x_vret C hR hS dX3_addPack_28
  · have hf := x_in hc hf
    refine lv_aload_n hx hb dX3_addPack_8 rfl (lv_at hl 0 rfl) ?_
    refine gf_3_0 C hR (x_k hR 54 rfl) tw_450 dX3_addPack_9 ?_
    refine lv_aload_n hx hb dX3_addPack_12 rfl (lv_at hl 0 rfl) ?_
    refine gf_3_4 C hR (x_k hR 54 rfl) tw_454 dX3_addPack_13 ?_
    refine lv_iload_n hx hb dX3_addPack_16 rfl (lv_at hl 1 rfl) ?_
    obtain ⟨g1, hf⟩ := x_gd hf
    obtain ⟨h2, eh2, hf⟩ := x_lt hf
    refine x_iast C hR hS (x_k1 (x_k hR 55 rfl)) (x_k2 (x_k hR 55 rfl) g1) dX3_addPack_17 (fun H locs hR hS => ?_)
    rw [← eh2] at hR
    refine lv_aload_n hx hb dX3_addPack_18 rfl (lv_at hl 0 rfl) ?_
    refine lv_dup hx hb dX3_addPack_19 rfl ?_
    refine gf_3_4 C hR (x_k hR 54 rfl) tw_454 dX3_addPack_20 ?_
    refine lv_iconst (v := 1) hx hb dX3_addPack_23 rfl ?_
    refine lv_iadd hx hb dX3_addPack_24 ?_
    obtain ⟨h3, eh3, hf⟩ := x_lt hf
    refine pf_3_4 C hR hS (x_k hR 54 rfl) tw_454 dX3_addPack_25 (fun H locs hR hS => ?_)
    rw [← eh3] at hR
    cases hf
    exact x_vret C hR hS dX3_addPack_28
def f_X3_setWorth (x : Nat) (h : XH) (v1 : Int32) (v2 : Int32) : Option (XH) := if (h.1 (x + 54) 4) ≤ 0 then some h else if x_b ((((h.1 (x + 54) 4) - 1) * 6) + v1) 30 = true then x_let (x_i h (x + 56) ((((h.1 (x + 54) 4) - 1) * 6) + v1).toNatClampNeg v2) (fun h2 => some h2) else none
set_option maxRecDepth 20000 in
theorem S_X3_setWorth {l : Launch} {O : XO} {K : XK} {h : XH} {v1 : Int32} {v2 : Int32}  {h' : XH}  (hf : f_X3_setWorth (oX O) h v1 v2 = some h') : x_M l O K yX3_setWorth cX3_setWorth 3 none 0 0 h [.ref (oX O + 54), .int v1, .int v2] none h' := by
  refine x_enter (by decide) (Nat.le_of_ble_eq_true rfl) (fun p e s m args below meth c C hR ls hl => ?_)
  have hS : va_S (oA O) s.heap s.heap [] := va_S.rf
  have hx := C.1
  have hb := C.2.1
  have hl : lv_has ls 3 [(0, .ref (oX O + 54)), (1, .int v1), (2, .int v2)] := hl
  rw [f_X3_setWorth] at hf
  refine lv_aload_n hx hb dX3_setWorth_0 rfl (lv_at hl 0 rfl) ?_
  refine gf_3_4 C hR (x_k hR 54 rfl) tw_454 dX3_setWorth_1 ?_
  refine lv_if_le (tgt := 24) hx hb dX3_setWorth_4 rfl (fun hc => ?_) (fun hc => ?_)
  · have hf := x_ip hc hf
    cases hf
    exact x_vret C hR hS dX3_setWorth_24
  · have hf := x_in hc hf
    refine lv_aload_n hx hb dX3_setWorth_7 rfl (lv_at hl 0 rfl) ?_
    refine gf_3_1 C hR (x_k hR 54 rfl) tw_451 dX3_setWorth_8 ?_
    refine lv_aload_n hx hb dX3_setWorth_11 rfl (lv_at hl 0 rfl) ?_
    refine gf_3_4 C hR (x_k hR 54 rfl) tw_454 dX3_setWorth_12 ?_
    refine lv_iconst (v := 1) hx hb dX3_setWorth_15 rfl ?_
    refine lv_isub hx hb dX3_setWorth_16 ?_
    refine lv_bipush (v := 6) hx hb dX3_setWorth_17 rfl ?_
    refine lv_imul hx hb dX3_setWorth_19 ?_
    refine lv_iload_n hx hb dX3_setWorth_20 rfl (lv_at hl 1 rfl) ?_
    refine lv_iadd hx hb dX3_setWorth_21 ?_
    refine lv_iload_n hx hb dX3_setWorth_22 rfl (lv_at hl 2 rfl) ?_
    obtain ⟨g1, hf⟩ := x_gd hf
    obtain ⟨h2, eh2, hf⟩ := x_lt hf
    refine x_iast C hR hS (x_k1 (x_k hR 56 rfl)) (x_k2 (x_k hR 56 rfl) g1) dX3_setWorth_23 (fun H locs hR hS => ?_)
    rw [← eh2] at hR
    cases hf
    exact x_vret C hR hS dX3_setWorth_24
def f_X3_houseFor_2 (x : Nat) (h : XH) : Nat → Int32 → Int32 → Option Int32
  | 0, _, _ => none
  | n + 1, v1, v2 => if (h.1 (x + 54) 4) ≤ v2 then some (-1) else if x_b v2 5 = true then if (h.1 (x + 55) v2.toNatClampNeg) = v1 then if (h.1 (x + 54) 5) = (-1) then some (-1) else if x_b v2 5 = true then some (h.1 (x + 58) v2.toNatClampNeg) else none else f_X3_houseFor_2 x h n v1 (v2 + 1) else none
def f_X3_houseFor (x : Nat) (h : XH) (v1 : Int32) : Option Int32 := f_X3_houseFor_2 x h x_FU v1 0
set_option maxRecDepth 20000 in
theorem B_X3_houseFor_2 {p : Program} {l : Launch} {e : Env} {s : State} {m : MethodId} {args : Array Value} {below : List Frame} {meth : Method} {c : Code} {O : XO} {K : XK} {h : XH} {r : Int32}   (C : x_C p s m args meth c O cX3_houseFor 3 RX3 (some .int))   : ∀ (n : Nat) (ls : Array Slot) (H : Heap) (locs : List Loc) (v1 : Int32) (v2 : Int32) (hl : lv_has ls 3 [(0, .ref (oX O + 54)), (1, .int v1), (2, .int v2)]) (hR : x_R O K h H) (hS : va_S (oA O) s.heap H locs) (hf : f_X3_houseFor_2 (oX O) h n v1 v2 = some r), W p l e (x_rm 0 0) s m args below meth c H locs 0 0 (MQ below (x_Qc O K h (some (.int r))) args s 0 0 (oA O)) (F0 m 2 ls []) := by
  have hx := C.1
  have hb := C.2.1
  intro n
  induction n with
  | zero =>
    intro ls H locs v1 v2 hl hR hS hf
    rw [f_X3_houseFor_2] at hf
    cases hf
  | succ n ih =>
    intro ls H locs v1 v2 hl hR hS hf
    rw [f_X3_houseFor_2] at hf
    refine lv_iload_n hx hb dX3_houseFor_2 rfl (lv_at hl 2 rfl) ?_
    refine lv_aload_n hx hb dX3_houseFor_3 rfl (lv_at hl 0 rfl) ?_
    refine gf_3_4 C hR (x_k hR 54 rfl) tw_454 dX3_houseFor_4 ?_
    refine lv_icmp_ge (tgt := 45) hx hb dX3_houseFor_7 rfl (fun hc => ?_) (fun hc => ?_)
    · have hf := x_ip hc hf
      refine lv_iconst (v := (-1)) hx hb dX3_houseFor_45 rfl ?_
      cases hf
      exact x_iret C hR hS dX3_houseFor_46
    · have hf := x_in hc hf
      refine lv_aload_n hx hb dX3_houseFor_10 rfl (lv_at hl 0 rfl) ?_
      refine gf_3_0 C hR (x_k hR 54 rfl) tw_450 dX3_houseFor_11 ?_
      refine lv_iload_n hx hb dX3_houseFor_14 rfl (lv_at hl 2 rfl) ?_
      obtain ⟨g1, hf⟩ := x_gd hf
      refine x_iald C hR (x_k1 (x_k hR 55 rfl)) (x_k2 (x_k hR 55 rfl) g1) dX3_houseFor_15 ?_
      refine lv_iload_n hx hb dX3_houseFor_16 rfl (lv_at hl 1 rfl) ?_
      refine lv_icmp_ne (tgt := 39) hx hb dX3_houseFor_17 rfl (fun hc => ?_) (fun hc => ?_)
      · have hf := x_in hc hf
        refine lv_iinc (k := 2) (v := _ + 1) (lv' := [(2, _), (0, _), (1, _)]) hx hb dX3_houseFor_39 hl rfl (x_inc 1 1 rfl _) (Nat.le_of_ble_eq_true rfl) rfl (fun ls hl => ?_)
        refine lv_goto (tgt := 2) hx hb dX3_houseFor_42 rfl ?_
        exact ih ls _ _ _ _  (lv_sub hl [1, 2, 0] rfl) hR hS hf
      · have hf := x_ip hc hf
        refine lv_aload_n hx hb dX3_houseFor_20 rfl (lv_at hl 0 rfl) ?_
        refine gf_3_5 C hR (x_k hR 54 rfl) tw_455 dX3_houseFor_21 ?_
        refine lv_iconst (v := (-1)) hx hb dX3_houseFor_24 rfl ?_
        refine lv_icmp_ne (tgt := 32) hx hb dX3_houseFor_25 rfl (fun hc => ?_) (fun hc => ?_)
        · have hf := x_in hc hf
          refine lv_aload_n hx hb dX3_houseFor_32 rfl (lv_at hl 0 rfl) ?_
          refine gf_3_3 C hR (x_k hR 54 rfl) tw_453 dX3_houseFor_33 ?_
          refine lv_iload_n hx hb dX3_houseFor_36 rfl (lv_at hl 2 rfl) ?_
          obtain ⟨g2, hf⟩ := x_gd hf
          refine x_iald C hR (x_k1 (x_k hR 58 rfl)) (x_k2 (x_k hR 58 rfl) g2) dX3_houseFor_37 ?_
          cases hf
          exact x_iret C hR hS dX3_houseFor_38
        · have hf := x_ip hc hf
          refine lv_iconst (v := (-1)) hx hb dX3_houseFor_28 rfl ?_
          refine lv_goto (tgt := 38) hx hb dX3_houseFor_29 rfl ?_
          cases hf
          exact x_iret C hR hS dX3_houseFor_38
set_option maxRecDepth 20000 in
theorem S_X3_houseFor {l : Launch} {O : XO} {K : XK} {h : XH} {v1 : Int32}  {r : Int32}  (hf : f_X3_houseFor (oX O) h v1 = some r) : x_M l O K yX3_houseFor cX3_houseFor 3 (some .int) 0 0 h [.ref (oX O + 54), .int v1] (some (.int r)) h := by
  refine x_enter (by decide) (Nat.le_of_ble_eq_true rfl) (fun p e s m args below meth c C hR ls hl => ?_)
  have hS : va_S (oA O) s.heap s.heap [] := va_S.rf
  have hx := C.1
  have hb := C.2.1
  have hl : lv_has ls 3 [(0, .ref (oX O + 54)), (1, .int v1)] := hl
  rw [f_X3_houseFor] at hf
  refine lv_iconst (v := 0) hx hb dX3_houseFor_0 rfl ?_
  refine lv_istore_n (lv' := [(2, _), (0, _), (1, _)]) hx hb dX3_houseFor_1 rfl hl (Nat.le_of_ble_eq_true rfl) rfl (fun ls hl => ?_)
  exact B_X3_houseFor_2  C  x_FU ls _ _ _ _  (lv_sub hl [1, 2, 0] rfl) hR hS hf
def f_X4_begin (a : Nat) (h : XH) (v1 : Int32) (v2 : Int32) (v3 : Int32) (v4 : Int32) : XH := x_let (x_i h a 0 v1) (fun h1 => x_let (x_i h1 a 1 v2) (fun h2 => x_let (x_i h2 a 2 v3) (fun h3 => x_let (x_i h3 a 3 v4) (fun h4 => x_let (x_i h4 a 4 0) (fun h5 => h5)))))
set_option maxRecDepth 20000 in
theorem S_X4_begin {l : Launch} {O : XO} {K : XK} {h : XH} {a : Nat} {v1 : Int32} {v2 : Int32} {v3 : Int32} {v4 : Int32}  {h' : XH} (k0 : K a = (5, 0)) (hf : f_X4_begin a h v1 v2 v3 v4 = h') : x_M l O K yX4_begin cX4_begin 5 none 0 0 h [.ref a, .int v1, .int v2, .int v3, .int v4] none h' := by
  refine x_enter (by decide) (Nat.le_of_ble_eq_true rfl) (fun p e s m args below meth c C hR ls hl => ?_)
  have hS : va_S (oA O) s.heap s.heap [] := va_S.rf
  have hx := C.1
  have hb := C.2.1
  have hl : lv_has ls 5 [(0, .ref a), (1, .int v1), (2, .int v2), (3, .int v3), (4, .int v4)] := hl
  rw [f_X4_begin] at hf
  refine lv_aload_n hx hb dX4_begin_0 rfl (lv_at hl 0 rfl) ?_
  refine lv_iload_n hx hb dX4_begin_1 rfl (lv_at hl 1 rfl) ?_
  obtain ⟨h1, eh1, hf⟩ := x_lt hf
  refine pf_4_0 C hR hS k0 tw_210 dX4_begin_2 (fun H locs hR hS => ?_)
  rw [← eh1] at hR
  refine lv_aload_n hx hb dX4_begin_5 rfl (lv_at hl 0 rfl) ?_
  refine lv_iload_n hx hb dX4_begin_6 rfl (lv_at hl 2 rfl) ?_
  obtain ⟨h2, eh2, hf⟩ := x_lt hf
  refine pf_4_1 C hR hS k0 tw_214 dX4_begin_7 (fun H locs hR hS => ?_)
  rw [← eh2] at hR
  refine lv_aload_n hx hb dX4_begin_10 rfl (lv_at hl 0 rfl) ?_
  refine lv_iload_n hx hb dX4_begin_11 rfl (lv_at hl 3 rfl) ?_
  obtain ⟨h3, eh3, hf⟩ := x_lt hf
  refine pf_4_2 C hR hS k0 tw_219 dX4_begin_12 (fun H locs hR hS => ?_)
  rw [← eh3] at hR
  refine lv_aload_n hx hb dX4_begin_15 rfl (lv_at hl 0 rfl) ?_
  refine lv_iload hx hb dX4_begin_16 (lv_at hl 4 rfl) ?_
  obtain ⟨h4, eh4, hf⟩ := x_lt hf
  refine pf_4_3 C hR hS k0 tw_222 dX4_begin_18 (fun H locs hR hS => ?_)
  rw [← eh4] at hR
  refine lv_aload_n hx hb dX4_begin_21 rfl (lv_at hl 0 rfl) ?_
  refine lv_iconst (v := 0) hx hb dX4_begin_22 rfl ?_
  obtain ⟨h5, eh5, hf⟩ := x_lt hf
  refine pf_4_4 C hR hS k0 tw_224 dX4_begin_23 (fun H locs hR hS => ?_)
  rw [← eh5] at hR
  cases hf
  exact x_vret C hR hS dX4_begin_26
def f_X4_touchFrom (a : Nat) (h : XH) (v1 : Int32) (v2 : Int32) : XH := x_let (x_i h a 5 v1) (fun h1 => x_let (x_i h1 a 6 v2) (fun h2 => h2))
set_option maxRecDepth 20000 in
theorem S_X4_touchFrom {l : Launch} {O : XO} {K : XK} {h : XH} {a : Nat} {v1 : Int32} {v2 : Int32}  {h' : XH} (k0 : K a = (5, 0)) (hf : f_X4_touchFrom a h v1 v2 = h') : x_M l O K yX4_touchFrom cX4_touchFrom 3 none 0 0 h [.ref a, .int v1, .int v2] none h' := by
  refine x_enter (by decide) (Nat.le_of_ble_eq_true rfl) (fun p e s m args below meth c C hR ls hl => ?_)
  have hS : va_S (oA O) s.heap s.heap [] := va_S.rf
  have hx := C.1
  have hb := C.2.1
  have hl : lv_has ls 3 [(0, .ref a), (1, .int v1), (2, .int v2)] := hl
  rw [f_X4_touchFrom] at hf
  refine lv_aload_n hx hb dX4_touchFrom_0 rfl (lv_at hl 0 rfl) ?_
  refine lv_iload_n hx hb dX4_touchFrom_1 rfl (lv_at hl 1 rfl) ?_
  obtain ⟨h1, eh1, hf⟩ := x_lt hf
  refine pf_4_5 C hR hS k0 tw_227 dX4_touchFrom_2 (fun H locs hR hS => ?_)
  rw [← eh1] at hR
  refine lv_aload_n hx hb dX4_touchFrom_5 rfl (lv_at hl 0 rfl) ?_
  refine lv_iload_n hx hb dX4_touchFrom_6 rfl (lv_at hl 2 rfl) ?_
  obtain ⟨h2, eh2, hf⟩ := x_lt hf
  refine pf_4_6 C hR hS k0 tw_228 dX4_touchFrom_7 (fun H locs hR hS => ?_)
  rw [← eh2] at hR
  cases hf
  exact x_vret C hR hS dX4_touchFrom_10
def f_X4_ageOf (a : Nat) (h : XH) (v1 : Int32) (v2 : Int32) : Int32 := (((v2 - (h.1 a 5)) - (v1 * (h.1 a 6))) / 10)
set_option maxRecDepth 20000 in
theorem S_X4_ageOf {l : Launch} {O : XO} {K : XK} {h : XH} {a : Nat} {v1 : Int32} {v2 : Int32}  {r : Int32} (k0 : K a = (5, 0)) (hf : f_X4_ageOf a h v1 v2 = r) : x_M l O K yX4_ageOf cX4_ageOf 3 (some .int) 0 0 h [.ref a, .int v1, .int v2] (some (.int r)) h := by
  refine x_enter (by decide) (Nat.le_of_ble_eq_true rfl) (fun p e s m args below meth c C hR ls hl => ?_)
  have hS : va_S (oA O) s.heap s.heap [] := va_S.rf
  have hx := C.1
  have hb := C.2.1
  have hl : lv_has ls 3 [(0, .ref a), (1, .int v1), (2, .int v2)] := hl
  rw [f_X4_ageOf] at hf
  refine lv_iload_n hx hb dX4_ageOf_0 rfl (lv_at hl 2 rfl) ?_
  refine lv_aload_n hx hb dX4_ageOf_1 rfl (lv_at hl 0 rfl) ?_
  refine gf_4_5 C hR k0 tw_227 dX4_ageOf_2 ?_
  refine lv_isub hx hb dX4_ageOf_5 ?_
  refine lv_iload_n hx hb dX4_ageOf_6 rfl (lv_at hl 1 rfl) ?_
  refine lv_aload_n hx hb dX4_ageOf_7 rfl (lv_at hl 0 rfl) ?_
  refine gf_4_6 C hR k0 tw_228 dX4_ageOf_8 ?_
  refine lv_imul hx hb dX4_ageOf_11 ?_
  refine lv_isub hx hb dX4_ageOf_12 ?_
  refine lv_bipush (v := 10) hx hb dX4_ageOf_13 rfl ?_
  refine lv_idiv hx hb dX4_ageOf_15 (by decide) ?_
  cases hf
  exact x_iret C hR hS dX4_ageOf_16
def f_X4_copyFrom (a : Nat) (h : XH) (v1 : Nat) : XH := x_let (x_i h a 0 (h.1 v1 0)) (fun h1 => x_let (x_i h1 a 1 (h1.1 v1 1)) (fun h2 => x_let (x_i h2 a 2 (h2.1 v1 2)) (fun h3 => x_let (x_i h3 a 3 (h3.1 v1 3)) (fun h4 => x_let (x_i h4 a 4 (h4.1 v1 4)) (fun h5 => x_let (x_i h5 a 5 (h5.1 v1 5)) (fun h6 => x_let (x_i h6 a 6 (h6.1 v1 6)) (fun h7 => x_let (x_i h7 a 7 (h7.1 v1 7)) (fun h8 => h8))))))))
set_option maxRecDepth 20000 in
theorem S_X4_copyFrom {l : Launch} {O : XO} {K : XK} {h : XH} {a : Nat} {v1 : Nat}  {h' : XH} (k0 : K a = (5, 0)) (k1 : K v1 = (5, 0)) (hf : f_X4_copyFrom a h v1 = h') : x_M l O K yX4_copyFrom cX4_copyFrom 2 none 0 0 h [.ref a, .ref v1] none h' := by
  refine x_enter (by decide) (Nat.le_of_ble_eq_true rfl) (fun p e s m args below meth c C hR ls hl => ?_)
  have hS : va_S (oA O) s.heap s.heap [] := va_S.rf
  have hx := C.1
  have hb := C.2.1
  have hl : lv_has ls 2 [(0, .ref a), (1, .ref v1)] := hl
  rw [f_X4_copyFrom] at hf
  refine lv_aload_n hx hb dX4_copyFrom_0 rfl (lv_at hl 0 rfl) ?_
  refine lv_aload_n hx hb dX4_copyFrom_1 rfl (lv_at hl 1 rfl) ?_
  refine gf_4_0 C hR k1 tw_210 dX4_copyFrom_2 ?_
  obtain ⟨h1, eh1, hf⟩ := x_lt hf
  refine pf_4_0 C hR hS k0 tw_210 dX4_copyFrom_5 (fun H locs hR hS => ?_)
  rw [← eh1] at hR
  refine lv_aload_n hx hb dX4_copyFrom_8 rfl (lv_at hl 0 rfl) ?_
  refine lv_aload_n hx hb dX4_copyFrom_9 rfl (lv_at hl 1 rfl) ?_
  refine gf_4_1 C hR k1 tw_214 dX4_copyFrom_10 ?_
  obtain ⟨h2, eh2, hf⟩ := x_lt hf
  refine pf_4_1 C hR hS k0 tw_214 dX4_copyFrom_13 (fun H locs hR hS => ?_)
  rw [← eh2] at hR
  refine lv_aload_n hx hb dX4_copyFrom_16 rfl (lv_at hl 0 rfl) ?_
  refine lv_aload_n hx hb dX4_copyFrom_17 rfl (lv_at hl 1 rfl) ?_
  refine gf_4_2 C hR k1 tw_219 dX4_copyFrom_18 ?_
  obtain ⟨h3, eh3, hf⟩ := x_lt hf
  refine pf_4_2 C hR hS k0 tw_219 dX4_copyFrom_21 (fun H locs hR hS => ?_)
  rw [← eh3] at hR
  refine lv_aload_n hx hb dX4_copyFrom_24 rfl (lv_at hl 0 rfl) ?_
  refine lv_aload_n hx hb dX4_copyFrom_25 rfl (lv_at hl 1 rfl) ?_
  refine gf_4_3 C hR k1 tw_222 dX4_copyFrom_26 ?_
  obtain ⟨h4, eh4, hf⟩ := x_lt hf
  refine pf_4_3 C hR hS k0 tw_222 dX4_copyFrom_29 (fun H locs hR hS => ?_)
  rw [← eh4] at hR
  refine lv_aload_n hx hb dX4_copyFrom_32 rfl (lv_at hl 0 rfl) ?_
  refine lv_aload_n hx hb dX4_copyFrom_33 rfl (lv_at hl 1 rfl) ?_
  refine gf_4_4 C hR k1 tw_224 dX4_copyFrom_34 ?_
  obtain ⟨h5, eh5, hf⟩ := x_lt hf
  refine pf_4_4 C hR hS k0 tw_224 dX4_copyFrom_37 (fun H locs hR hS => ?_)
  rw [← eh5] at hR
  refine lv_aload_n hx hb dX4_copyFrom_40 rfl (lv_at hl 0 rfl) ?_
  refine lv_aload_n hx hb dX4_copyFrom_41 rfl (lv_at hl 1 rfl) ?_
  refine gf_4_5 C hR k1 tw_227 dX4_copyFrom_42 ?_
  obtain ⟨h6, eh6, hf⟩ := x_lt hf
  refine pf_4_5 C hR hS k0 tw_227 dX4_copyFrom_45 (fun H locs hR hS => ?_)
  rw [← eh6] at hR
  refine lv_aload_n hx hb dX4_copyFrom_48 rfl (lv_at hl 0 rfl) ?_
  refine lv_aload_n hx hb dX4_copyFrom_49 rfl (lv_at hl 1 rfl) ?_
  refine gf_4_6 C hR k1 tw_228 dX4_copyFrom_50 ?_
  obtain ⟨h7, eh7, hf⟩ := x_lt hf
  refine pf_4_6 C hR hS k0 tw_228 dX4_copyFrom_53 (fun H locs hR hS => ?_)
  rw [← eh7] at hR
  refine lv_aload_n hx hb dX4_copyFrom_56 rfl (lv_at hl 0 rfl) ?_
  refine lv_aload_n hx hb dX4_copyFrom_57 rfl (lv_at hl 1 rfl) ?_
  refine gf_4_7 C hR k1 tw_229 dX4_copyFrom_58 ?_
  obtain ⟨h8, eh8, hf⟩ := x_lt hf
  refine pf_4_7 C hR hS k0 tw_229 dX4_copyFrom_61 (fun H locs hR hS => ?_)
  rw [← eh8] at hR
  cases hf
  exact x_vret C hR hS dX4_copyFrom_64
def f_X5_oldAt_76 (k6 : Int32 → Nat → Int32 → Int32 → Int32 → Option Int32) (x : Nat) (h : XH) (v1 : Int32) (v2 : Nat) (v3 : Int32) (v4 : Int32) (v5 : Int32) : Option Int32 := k6 v1 v2 v3 v4 (v5 + 1)
def f_X5_oldAt_6 (x : Nat) (h : XH) : Nat → Int32 → Nat → Int32 → Int32 → Int32 → Option Int32
  | 0, _, _, _, _, _ => none
  | n + 1, v1, v2, v3, v4, v5 => if (h.1 (x + 9) 4) ≤ v5 then some v4 else if x_b v5 8 = true then if v5 = v1 then f_X5_oldAt_76 (f_X5_oldAt_6 x h n) x h v1 v2 v3 v4 v5 else if (h.1 ((x + 13) + 6 + 3 * v5.toNatClampNeg) 3) = 0 then f_X5_oldAt_76 (f_X5_oldAt_6 x h n) x h v1 v2 v3 v4 v5 else if (h.1 v2 7) ≤ (h.1 (((x + 13) + 6 + 3 * v5.toNatClampNeg) + 1) 7) then f_X5_oldAt_76 (f_X5_oldAt_6 x h n) x h v1 v2 v3 v4 v5 else Option.bind (f_X2_placeAt ((x + 13) + 6 + 3 * v5.toNatClampNeg) h (h.1 v2 0) v3) (fun v_2 => f_X5_oldAt_76 (f_X5_oldAt_6 x h n) x h v1 v2 v3 (if v_2 = (-1) then v4 else (v4 + 1)) v5) else none
def f_X5_oldAt (x : Nat) (h : XH) (v1 : Int32) (v2 : Nat) (v3 : Int32) : Option Int32 := f_X5_oldAt_6 x h x_FU v1 v2 v3 0 0
set_option maxRecDepth 20000 in
theorem B_X5_oldAt_76 {p : Program} {l : Launch} {e : Env} {s : State} {m : MethodId} {args : Array Value} {below : List Frame} {meth : Method} {c : Code} {O : XO} {K : XK} {h : XH} {r : Int32}  {k6 : Int32 → Nat → Int32 → Int32 → Int32 → Option Int32} (C : x_C p s m args meth c O cX5_oldAt 7 RX5 (some .int)) (hk6 : ∀ (ls : Array Slot) (H : Heap) (locs : List Loc) (v1 : Int32) (v2 : Nat) (v3 : Int32) (v4 : Int32) (v5 : Int32) (kv2 : K v2 = (5, 0)), lv_has ls 7 [(0, .ref (oX O + 46)), (1, .int v1), (2, .ref v2), (3, .int v3), (4, .int v4), (5, .int v5)] → x_R O K h H → va_S (oA O) s.heap H locs → k6 v1 v2 v3 v4 v5 = some r → W p l e (x_rm 2 44) s m args below meth c H locs 0 0 (MQ below (x_Qc O K h (some (.int r))) args s 0 0 (oA O)) (F0 m 6 ls []))  (ls : Array Slot) (H : Heap) (locs : List Loc) (v1 : Int32) (v2 : Nat) (v3 : Int32) (v4 : Int32) (v5 : Int32) (kv2 : K v2 = (5, 0)) (hl : lv_has ls 7 [(0, .ref (oX O + 46)), (1, .int v1), (2, .ref v2), (3, .int v3), (4, .int v4), (5, .int v5)]) (hR : x_R O K h H) (hS : va_S (oA O) s.heap H locs) (hf : f_X5_oldAt_76 k6 (oX O) h v1 v2 v3 v4 v5 = some r) : W p l e (x_rm 2 44) s m args below meth c H locs 0 0 (MQ below (x_Qc O K h (some (.int r))) args s 0 0 (oA O)) (F0 m 76 ls []) := by
  have hx := C.1
  have hb := C.2.1
  rw [f_X5_oldAt_76] at hf
  refine lv_iinc (k := 5) (v := _ + 1) (lv' := [(5, _), (0, _), (1, _), (2, _), (3, _), (4, _)]) hx hb dX5_oldAt_76 hl rfl (x_inc 1 1 rfl _) (Nat.le_of_ble_eq_true rfl) rfl (fun ls hl => ?_)
  refine lv_goto (tgt := 6) hx hb dX5_oldAt_79 rfl ?_
  exact hk6 ls _ _ _ _ _ _ _ kv2 (lv_sub hl [1, 2, 3, 4, 5, 0] rfl) hR hS hf
set_option maxRecDepth 20000 in
theorem B_X5_oldAt_6 {p : Program} {l : Launch} {e : Env} {s : State} {m : MethodId} {args : Array Value} {below : List Frame} {meth : Method} {c : Code} {O : XO} {K : XK} {h : XH} {r : Int32}   (C : x_C p s m args meth c O cX5_oldAt 7 RX5 (some .int))   : ∀ (n : Nat) (ls : Array Slot) (H : Heap) (locs : List Loc) (v1 : Int32) (v2 : Nat) (v3 : Int32) (v4 : Int32) (v5 : Int32) (kv2 : K v2 = (5, 0)) (hl : lv_has ls 7 [(0, .ref (oX O + 46)), (1, .int v1), (2, .ref v2), (3, .int v3), (4, .int v4), (5, .int v5)]) (hR : x_R O K h H) (hS : va_S (oA O) s.heap H locs) (hf : f_X5_oldAt_6 (oX O) h n v1 v2 v3 v4 v5 = some r), W p l e (x_rm 2 44) s m args below meth c H locs 0 0 (MQ below (x_Qc O K h (some (.int r))) args s 0 0 (oA O)) (F0 m 6 ls []) := by
  have hx := C.1
  have hb := C.2.1
  intro n
  induction n with
  | zero =>
    intro ls H locs v1 v2 v3 v4 v5 kv2 hl hR hS hf
    rw [f_X5_oldAt_6] at hf
    cases hf
  | succ n ih =>
    intro ls H locs v1 v2 v3 v4 v5 kv2 hl hR hS hf
    rw [f_X5_oldAt_6] at hf
    refine lv_iload hx hb dX5_oldAt_6 (lv_at hl 5 rfl) ?_
    refine lv_aload_n hx hb dX5_oldAt_8 rfl (lv_at hl 0 rfl) ?_
    refine gf_5_0 C hR (x_k hR 46 rfl) tw_390 dX5_oldAt_9 ?_
    refine gf_7_4 C hR (x_k hR 9 rfl) tw_300 dX5_oldAt_12 ?_
    refine lv_icmp_ge (tgt := 82) hx hb dX5_oldAt_15 rfl (fun hc => ?_) (fun hc => ?_)
    · have hf := x_ip hc hf
      refine lv_iload hx hb dX5_oldAt_82 (lv_at hl 4 rfl) ?_
      cases hf
      exact x_iret C hR hS dX5_oldAt_84
    · have hf := x_in hc hf
      refine lv_aload_n hx hb dX5_oldAt_18 rfl (lv_at hl 0 rfl) ?_
      refine gf_5_0 C hR (x_k hR 46 rfl) tw_390 dX5_oldAt_19 ?_
      refine gf_7_5 C hR (x_k hR 9 rfl) tw_302 dX5_oldAt_22 ?_
      refine lv_iload hx hb dX5_oldAt_25 (lv_at hl 5 rfl) ?_
      obtain ⟨g1, hf⟩ := x_gd hf
      refine x_paald C hR (x_k1 (x_k hR 13 rfl)) (x_k2 (x_k hR 13 rfl) g1) dX5_oldAt_27 ?_
      refine lv_astore (lv' := [(6, _), (0, _), (1, _), (2, _), (3, _), (4, _), (5, _)]) hx hb dX5_oldAt_28 hl (Nat.le_of_ble_eq_true rfl) rfl (fun ls hl => ?_)
      refine lv_iload hx hb dX5_oldAt_30 (lv_at hl 6 rfl) ?_
      refine lv_iload_n hx hb dX5_oldAt_32 rfl (lv_at hl 2 rfl) ?_
      refine lv_icmp_eq (tgt := 76) hx hb dX5_oldAt_33 rfl (fun hc => ?_) (fun hc => ?_)
      · have hf := x_ip hc hf
        exact B_X5_oldAt_76  C ih  ls _ _ _ _ _ _ _ kv2 (lv_sub hl [1, 2, 3, 4, 5, 6] rfl) hR hS hf
      · have hf := x_in hc hf
        refine lv_aload hx hb dX5_oldAt_36 (lv_at hl 0 rfl) ?_
        refine gf_2_3 C hR (x_kP hR (x_k hR 13 rfl) g1) tw_260 dX5_oldAt_38 ?_
        refine lv_if_eq (tgt := 76) hx hb dX5_oldAt_41 rfl (fun hc => ?_) (fun hc => ?_)
        · have hf := x_ip hc hf
          exact B_X5_oldAt_76  C ih  ls _ _ _ _ _ _ _ kv2 (lv_sub hl [1, 2, 3, 4, 5, 6] rfl) hR hS hf
        · have hf := x_in hc hf
          refine lv_aload hx hb dX5_oldAt_44 (lv_at hl 0 rfl) ?_
          refine gf_2_4 C hR (x_kP hR (x_k hR 13 rfl) g1) tw_263 dX5_oldAt_46 ?_
          refine gf_4_7 C hR (kf_2_1 hR (x_kP hR (x_k hR 13 rfl) g1)) tw_230 dX5_oldAt_49 ?_
          refine lv_aload_n hx hb dX5_oldAt_52 rfl (lv_at hl 3 rfl) ?_
          refine gf_4_7 C hR kv2 tw_230 dX5_oldAt_53 ?_
          refine lv_icmp_ge (tgt := 76) hx hb dX5_oldAt_56 rfl (fun hc => ?_) (fun hc => ?_)
          · have hf := x_ip hc hf
            exact B_X5_oldAt_76  C ih  ls _ _ _ _ _ _ _ kv2 (lv_sub hl [1, 2, 3, 4, 5, 6] rfl) hR hS hf
          · have hf := x_in hc hf
            refine lv_aload hx hb dX5_oldAt_59 (lv_at hl 0 rfl) ?_
            refine lv_aload_n hx hb dX5_oldAt_61 rfl (lv_at hl 3 rfl) ?_
            refine gf_4_0 C hR kv2 tw_213 dX5_oldAt_62 ?_
            refine lv_iload_n hx hb dX5_oldAt_65 rfl (lv_at hl 4 rfl) ?_
            obtain ⟨v_2, ev_2, hf⟩ := x_bd hf
            refine x_cVi2 C hR hS (S_X2_placeAt (x_kP hR (x_k hR 13 rfl) g1) ev_2) (x_kP hR (x_k hR 13 rfl) g1) (by decide) rfl mf_X2_placeAt tw_1069 (Nat.le_of_ble_eq_true rfl) (Nat.le_of_ble_eq_true rfl) hl.1 (Nat.le_of_ble_eq_true rfl) dX5_oldAt_66 ⟨Nat.le_refl _, Nat.le_refl _⟩ (fun H locs hR hS => ?_)
            refine lv_iconst (v := (-1)) hx hb dX5_oldAt_69 rfl ?_
            have kM3 : ∀ (ls : Array Slot) (H : Heap) (locs : List Loc), lv_has ls 7 [(0, .ref (oX O + 46)), (1, .int v1), (2, .ref v2), (3, .int v3), (4, .int (if v_2 = (-1) then v4 else (v4 + 1))), (5, .int v5)] → x_R O K h H → va_S (oA O) s.heap H locs → W p l e (x_rm 2 44) s m args below meth c H locs 0 0 (MQ below (x_Qc O K h (some (.int r))) args s 0 0 (oA O)) (F0 m 76 ls []) := by
              intro ls H locs hl hR hS
              exact B_X5_oldAt_76  C ih  ls _ _ _ _ _ _ _ kv2 (lv_sub hl [0, 1, 2, 3, 4, 5] rfl) hR hS hf
            refine lv_icmp_eq (tgt := 76) hx hb dX5_oldAt_70 rfl (fun hc => ?_) (fun hc => ?_)
            · try simp only [if_pos hc] at kM3
              exact kM3 ls _ _ (lv_sub hl [1, 2, 3, 4, 5, 6] rfl) hR hS
            · try simp only [if_neg hc] at kM3
              refine lv_iinc (k := 5) (v := _ + 1) (lv' := [(4, _), (6, _), (0, _), (1, _), (2, _), (3, _), (5, _)]) hx hb dX5_oldAt_73 hl rfl (x_inc 1 1 rfl _) (Nat.le_of_ble_eq_true rfl) rfl (fun ls hl => ?_)
              exact kM3 ls _ _ (lv_sub hl [2, 3, 4, 5, 0, 6] rfl) hR hS
set_option maxRecDepth 20000 in
theorem S_X5_oldAt {l : Launch} {O : XO} {K : XK} {h : XH} {v1 : Int32} {v2 : Nat} {v3 : Int32}  {r : Int32} (k2 : K v2 = (5, 0)) (hf : f_X5_oldAt (oX O) h v1 v2 v3 = some r) : x_M l O K yX5_oldAt cX5_oldAt 7 (some .int) 2 44 h [.ref (oX O + 46), .int v1, .ref v2, .int v3] (some (.int r)) h := by
  refine x_enter (by decide) (Nat.le_of_ble_eq_true rfl) (fun p e s m args below meth c C hR ls hl => ?_)
  have hS : va_S (oA O) s.heap s.heap [] := va_S.rf
  have hx := C.1
  have hb := C.2.1
  have hl : lv_has ls 7 [(0, .ref (oX O + 46)), (1, .int v1), (2, .ref v2), (3, .int v3)] := hl
  rw [f_X5_oldAt] at hf
  refine lv_iconst (v := 0) hx hb dX5_oldAt_0 rfl ?_
  refine lv_istore (lv' := [(4, _), (0, _), (1, _), (2, _), (3, _)]) hx hb dX5_oldAt_1 hl (Nat.le_of_ble_eq_true rfl) rfl (fun ls hl => ?_)
  refine lv_iconst (v := 0) hx hb dX5_oldAt_3 rfl ?_
  refine lv_istore (lv' := [(5, _), (4, _), (0, _), (1, _), (2, _), (3, _)]) hx hb dX5_oldAt_4 hl (Nat.le_of_ble_eq_true rfl) rfl (fun ls hl => ?_)
  exact B_X5_oldAt_6  C  x_FU ls _ _ _ _ _ _ _ k2 (lv_sub hl [2, 3, 4, 5, 1, 0] rfl) hR hS hf
def f_X6_weightOf_25 (x : Nat) (h : XH) (v1 : Int32) : Option Int32 := if x_b v1 6 = true then some (([0, 3, 3, 2, 2, 1] : List Int32).getD v1.toNatClampNeg 0) else none
def f_X6_weightOf_33 (x : Nat) (h : XH) : Option Int32 := some 0
def f_X6_weightOf (x : Nat) (h : XH) (v1 : Int32) : Option Int32 := if v1 = 1 then f_X6_weightOf_25 x h v1 else if v1 < 2 then f_X6_weightOf_33 x h else if 5 < v1 then f_X6_weightOf_33 x h else if x_b v1 6 = true then if (h.1 (x + 50) v1.toNatClampNeg) = (-1) then f_X6_weightOf_33 x h else f_X6_weightOf_25 x h v1 else none
set_option maxRecDepth 20000 in
theorem B_X6_weightOf_25 {p : Program} {l : Launch} {e : Env} {s : State} {m : MethodId} {args : Array Value} {below : List Frame} {meth : Method} {c : Code} {O : XO} {K : XK} {h : XH} {r : Int32}   (C : x_C p s m args meth c O cX6_weightOf 2 RX6 (some .int))   (ls : Array Slot) (H : Heap) (locs : List Loc) (v1 : Int32) (hl : lv_has ls 2 [(1, .int v1)]) (hR : x_R O K h H) (hS : va_S (oA O) s.heap H locs) (hf : f_X6_weightOf_25 (oX O) h v1 = some r) : W p l e (x_rm 0 0) s m args below meth c H locs 0 0 (MQ below (x_Qc O K h (some (.int r))) args s 0 0 (oA O)) (F0 m 25 ls []) := by
  have hx := C.1
  have hb := C.2.1
  rw [f_X6_weightOf_25] at hf
  refine va_gets hx hb C.2.2.2.2.2.2.2.2.2.2.2.2.2.1 hS C.2.2.2.1 (C.2.2.2.2.1 _ tw_1229) (fun _ h9 => h9) dX6_weightOf_25 ?_
  refine lv_iload_n hx hb dX6_weightOf_28 rfl (lv_at hl 0 rfl) ?_
  obtain ⟨g1, hf⟩ := x_gd hf
  refine va_ti hx hb C.2.2.2.2.2.2.2.2.2.2.2.2.2.2.1 hS (x_b_in g1) rfl dX6_weightOf_29 ?_
  refine lv_goto (tgt := 34) hx hb dX6_weightOf_30 rfl ?_
  cases hf
  exact x_iret C hR hS dX6_weightOf_34
set_option maxRecDepth 20000 in
theorem B_X6_weightOf_33 {p : Program} {l : Launch} {e : Env} {s : State} {m : MethodId} {args : Array Value} {below : List Frame} {meth : Method} {c : Code} {O : XO} {K : XK} {h : XH} {r : Int32}   (C : x_C p s m args meth c O cX6_weightOf 2 RX6 (some .int))   (ls : Array Slot) (H : Heap) (locs : List Loc) (hl : lv_has ls 2 []) (hR : x_R O K h H) (hS : va_S (oA O) s.heap H locs) (hf : f_X6_weightOf_33 (oX O) h = some r) : W p l e (x_rm 0 0) s m args below meth c H locs 0 0 (MQ below (x_Qc O K h (some (.int r))) args s 0 0 (oA O)) (F0 m 33 ls []) := by
  have hx := C.1
  have hb := C.2.1
  rw [f_X6_weightOf_33] at hf
  refine lv_iconst (v := 0) hx hb dX6_weightOf_33 rfl ?_
  cases hf
  exact x_iret C hR hS dX6_weightOf_34
set_option maxRecDepth 20000 in
theorem S_X6_weightOf {l : Launch} {O : XO} {K : XK} {h : XH} {v1 : Int32}  {r : Int32}  (hf : f_X6_weightOf (oX O) h v1 = some r) : x_M l O K yX6_weightOf cX6_weightOf 2 (some .int) 0 0 h [.ref (oX O + 49), .int v1] (some (.int r)) h := by
  refine x_enter (by decide) (Nat.le_of_ble_eq_true rfl) (fun p e s m args below meth c C hR ls hl => ?_)
  have hS : va_S (oA O) s.heap s.heap [] := va_S.rf
  have hx := C.1
  have hb := C.2.1
  have hl : lv_has ls 2 [(0, .ref (oX O + 49)), (1, .int v1)] := hl
  rw [f_X6_weightOf] at hf
  refine lv_iload_n hx hb dX6_weightOf_0 rfl (lv_at hl 1 rfl) ?_
  refine lv_iconst (v := 1) hx hb dX6_weightOf_1 rfl ?_
  refine lv_icmp_eq (tgt := 25) hx hb dX6_weightOf_2 rfl (fun hc => ?_) (fun hc => ?_)
  · have hf := x_ip hc hf
    exact B_X6_weightOf_25  C   ls _ _ _  (lv_sub hl [1] rfl) hR hS hf
  · have hf := x_in hc hf
    refine lv_iload_n hx hb dX6_weightOf_5 rfl (lv_at hl 1 rfl) ?_
    refine lv_iconst (v := 2) hx hb dX6_weightOf_6 rfl ?_
    refine lv_icmp_lt (tgt := 33) hx hb dX6_weightOf_7 rfl (fun hc => ?_) (fun hc => ?_)
    · have hf := x_ip hc hf
      exact B_X6_weightOf_33  C   ls _ _   (lv_sub hl [] rfl) hR hS hf
    · have hf := x_in hc hf
      refine lv_iload_n hx hb dX6_weightOf_10 rfl (lv_at hl 1 rfl) ?_
      refine lv_iconst (v := 5) hx hb dX6_weightOf_11 rfl ?_
      refine lv_icmp_gt (tgt := 33) hx hb dX6_weightOf_12 rfl (fun hc => ?_) (fun hc => ?_)
      · have hf := x_ip hc hf
        exact B_X6_weightOf_33  C   ls _ _   (lv_sub hl [] rfl) hR hS hf
      · have hf := x_in hc hf
        refine lv_aload_n hx hb dX6_weightOf_15 rfl (lv_at hl 0 rfl) ?_
        refine gf_6_1 C hR (x_k hR 49 rfl) tw_410 dX6_weightOf_16 ?_
        refine lv_iload_n hx hb dX6_weightOf_19 rfl (lv_at hl 1 rfl) ?_
        obtain ⟨g2, hf⟩ := x_gd hf
        refine x_iald C hR (x_k1 (x_k hR 50 rfl)) (x_k2 (x_k hR 50 rfl) g2) dX6_weightOf_20 ?_
        refine lv_iconst (v := (-1)) hx hb dX6_weightOf_21 rfl ?_
        refine lv_icmp_eq (tgt := 33) hx hb dX6_weightOf_22 rfl (fun hc => ?_) (fun hc => ?_)
        · have hf := x_ip hc hf
          exact B_X6_weightOf_33  C   ls _ _   (lv_sub hl [] rfl) hR hS hf
        · have hf := x_in hc hf
          exact B_X6_weightOf_25  C   ls _ _ _  (lv_sub hl [1] rfl) hR hS hf
def f_X6_allWeights_4 (x : Nat) (h : XH) : Nat → Int32 → Int32 → Option Int32
  | 0, _, _ => none
  | n + 1, v1, v2 => if 5 < v2 then some v1 else Option.bind (f_X6_weightOf x h v2) (fun v_1 => f_X6_allWeights_4 x h n (v1 + v_1) (v2 + 1))
def f_X6_allWeights (x : Nat) (h : XH) : Option Int32 := f_X6_allWeights_4 x h x_FU 0 1
set_option maxRecDepth 20000 in
theorem B_X6_allWeights_4 {p : Program} {l : Launch} {e : Env} {s : State} {m : MethodId} {args : Array Value} {below : List Frame} {meth : Method} {c : Code} {O : XO} {K : XK} {h : XH} {r : Int32}   (C : x_C p s m args meth c O cX6_allWeights 3 RX6 (some .int))   : ∀ (n : Nat) (ls : Array Slot) (H : Heap) (locs : List Loc) (v1 : Int32) (v2 : Int32) (hl : lv_has ls 3 [(0, .ref (oX O + 49)), (1, .int v1), (2, .int v2)]) (hR : x_R O K h H) (hS : va_S (oA O) s.heap H locs) (hf : f_X6_allWeights_4 (oX O) h n v1 v2 = some r), W p l e (x_rm 1 21) s m args below meth c H locs 0 0 (MQ below (x_Qc O K h (some (.int r))) args s 0 0 (oA O)) (F0 m 4 ls []) := by
  have hx := C.1
  have hb := C.2.1
  intro n
  induction n with
  | zero =>
    intro ls H locs v1 v2 hl hR hS hf
    rw [f_X6_allWeights_4] at hf
    cases hf
  | succ n ih =>
    intro ls H locs v1 v2 hl hR hS hf
    rw [f_X6_allWeights_4] at hf
    refine lv_iload_n hx hb dX6_allWeights_4 rfl (lv_at hl 2 rfl) ?_
    refine lv_iconst (v := 5) hx hb dX6_allWeights_5 rfl ?_
    refine lv_icmp_gt (tgt := 23) hx hb dX6_allWeights_6 rfl (fun hc => ?_) (fun hc => ?_)
    · have hf := x_ip hc hf
      refine lv_iload_n hx hb dX6_allWeights_23 rfl (lv_at hl 1 rfl) ?_
      cases hf
      exact x_iret C hR hS dX6_allWeights_24
    · have hf := x_in hc hf
      refine lv_iload_n hx hb dX6_allWeights_9 rfl (lv_at hl 1 rfl) ?_
      refine lv_aload_n hx hb dX6_allWeights_10 rfl (lv_at hl 0 rfl) ?_
      refine lv_iload_n hx hb dX6_allWeights_11 rfl (lv_at hl 2 rfl) ?_
      obtain ⟨v_1, ev_1, hf⟩ := x_bd hf
      refine x_cVi1 C hR hS (S_X6_weightOf  ev_1) (x_k hR 49 rfl) (by decide) rfl mf_X6_weightOf tw_1225 (Nat.le_of_ble_eq_true rfl) (Nat.le_of_ble_eq_true rfl) hl.1 (Nat.le_of_ble_eq_true rfl) dX6_allWeights_12 ⟨Nat.le_refl _, Nat.le_refl _⟩ (fun H locs hR hS => ?_)
      refine lv_iadd hx hb dX6_allWeights_15 ?_
      refine lv_istore_n (lv' := [(1, _), (0, _), (2, _)]) hx hb dX6_allWeights_16 rfl hl (Nat.le_of_ble_eq_true rfl) rfl (fun ls hl => ?_)
      refine lv_iinc (k := 2) (v := _ + 1) (lv' := [(2, _), (1, _), (0, _)]) hx hb dX6_allWeights_17 hl rfl (x_inc 1 1 rfl _) (Nat.le_of_ble_eq_true rfl) rfl (fun ls hl => ?_)
      refine lv_goto (tgt := 4) hx hb dX6_allWeights_20 rfl ?_
      exact ih ls _ _ _ _  (lv_sub hl [2, 1, 0] rfl) hR hS hf
set_option maxRecDepth 20000 in
theorem S_X6_allWeights {l : Launch} {O : XO} {K : XK} {h : XH}  {r : Int32}  (hf : f_X6_allWeights (oX O) h = some r) : x_M l O K yX6_allWeights cX6_allWeights 3 (some .int) 1 21 h [.ref (oX O + 49)] (some (.int r)) h := by
  refine x_enter (by decide) (Nat.le_of_ble_eq_true rfl) (fun p e s m args below meth c C hR ls hl => ?_)
  have hS : va_S (oA O) s.heap s.heap [] := va_S.rf
  have hx := C.1
  have hb := C.2.1
  have hl : lv_has ls 3 [(0, .ref (oX O + 49))] := hl
  rw [f_X6_allWeights] at hf
  refine lv_iconst (v := 0) hx hb dX6_allWeights_0 rfl ?_
  refine lv_istore_n (lv' := [(1, _), (0, _)]) hx hb dX6_allWeights_1 rfl hl (Nat.le_of_ble_eq_true rfl) rfl (fun ls hl => ?_)
  refine lv_iconst (v := 1) hx hb dX6_allWeights_2 rfl ?_
  refine lv_istore_n (lv' := [(2, _), (1, _), (0, _)]) hx hb dX6_allWeights_3 rfl hl (Nat.le_of_ble_eq_true rfl) rfl (fun ls hl => ?_)
  exact B_X6_allWeights_4  C  x_FU ls _ _ _ _  (lv_sub hl [2, 1, 0] rfl) hR hS hf
def f_X6_ghostAt_23 (x : Nat) (h : XH) : Nat → Int32 → Int32 → Nat → Int32 → Int32 → Int32 → Option Int32
  | 0, _, _, _, _, _, _ => none
  | n + 1, v2, v3, v4, v5, v6, v7 => if (h.1 (x + 9) 4) ≤ v7 then some v6 else if x_b v7 8 = true then Option.bind (f_X2_placeAt ((x + 13) + 6 + 3 * v7.toNatClampNeg) h (h.1 v4 0) v2) (fun v_3 => x_let ((h.1 (((x + 13) + 6 + 3 * v7.toNatClampNeg) + 1) 7) : Int32) (fun t4 => f_X6_ghostAt_23 x h n v2 v3 v4 (if v_3 = (-1) then v5 else (if (h.1 v4 7) ≤ t4 then v5 else (if t4 ≤ v5 then v5 else (if (f_X2_cardWith ((x + 13) + 6 + 3 * v7.toNatClampNeg) h v_3 v3) = (-1) then v5 else t4)))) (if v_3 = (-1) then v6 else (if (h.1 v4 7) ≤ t4 then v6 else (if t4 ≤ v5 then v6 else (if (f_X2_cardWith ((x + 13) + 6 + 3 * v7.toNatClampNeg) h v_3 v3) = (-1) then v6 else (f_X2_cardWith ((x + 13) + 6 + 3 * v7.toNatClampNeg) h v_3 v3))))) (v7 + 1))) else none
def f_X6_ghostAt (x : Nat) (h : XH) (v1 : Int32) (v2 : Int32) (v3 : Int32) : Option Int32 := if x_b v1 8 = true then f_X6_ghostAt_23 x h x_FU v2 v3 (((x + 13) + 6 + 3 * v1.toNatClampNeg) + 1) (-1) (-1) 0 else none
set_option maxRecDepth 20000 in
theorem B_X6_ghostAt_23 {p : Program} {l : Launch} {e : Env} {s : State} {m : MethodId} {args : Array Value} {below : List Frame} {meth : Method} {c : Code} {O : XO} {K : XK} {h : XH} {r : Int32}   (C : x_C p s m args meth c O cX6_ghostAt 11 RX6 (some .int))   : ∀ (n : Nat) (ls : Array Slot) (H : Heap) (locs : List Loc) (v2 : Int32) (v3 : Int32) (v4 : Nat) (v5 : Int32) (v6 : Int32) (v7 : Int32) (kv4 : K v4 = (5, 0)) (hl : lv_has ls 11 [(0, .ref (oX O + 49)), (2, .int v2), (3, .int v3), (4, .ref v4), (5, .int v5), (6, .int v6), (7, .int v7)]) (hR : x_R O K h H) (hS : va_S (oA O) s.heap H locs) (hf : f_X6_ghostAt_23 (oX O) h n v2 v3 v4 v5 v6 v7 = some r), W p l e (x_rm 2 44) s m args below meth c H locs 0 0 (MQ below (x_Qc O K h (some (.int r))) args s 0 0 (oA O)) (F0 m 23 ls []) := by
  have hx := C.1
  have hb := C.2.1
  intro n
  induction n with
  | zero =>
    intro ls H locs v2 v3 v4 v5 v6 v7 kv4 hl hR hS hf
    rw [f_X6_ghostAt_23] at hf
    cases hf
  | succ n ih =>
    intro ls H locs v2 v3 v4 v5 v6 v7 kv4 hl hR hS hf
    rw [f_X6_ghostAt_23] at hf
    refine lv_iload hx hb dX6_ghostAt_23 (lv_at hl 6 rfl) ?_
    refine lv_aload_n hx hb dX6_ghostAt_25 rfl (lv_at hl 0 rfl) ?_
    refine gf_6_0 C hR (x_k hR 49 rfl) tw_409 dX6_ghostAt_26 ?_
    refine gf_7_4 C hR (x_k hR 9 rfl) tw_298 dX6_ghostAt_29 ?_
    refine lv_icmp_ge (tgt := 125) hx hb dX6_ghostAt_32 rfl (fun hc => ?_) (fun hc => ?_)
    · have hf := x_ip hc hf
      refine lv_iload hx hb dX6_ghostAt_125 (lv_at hl 5 rfl) ?_
      cases hf
      exact x_iret C hR hS dX6_ghostAt_127
    · have hf := x_in hc hf
      refine lv_aload_n hx hb dX6_ghostAt_35 rfl (lv_at hl 0 rfl) ?_
      refine gf_6_0 C hR (x_k hR 49 rfl) tw_409 dX6_ghostAt_36 ?_
      refine gf_7_5 C hR (x_k hR 9 rfl) tw_303 dX6_ghostAt_39 ?_
      refine lv_iload hx hb dX6_ghostAt_42 (lv_at hl 6 rfl) ?_
      obtain ⟨g2, hf⟩ := x_gd hf
      refine x_paald C hR (x_k1 (x_k hR 13 rfl)) (x_k2 (x_k hR 13 rfl) g2) dX6_ghostAt_44 ?_
      refine lv_astore (lv' := [(8, _), (0, _), (2, _), (3, _), (4, _), (5, _), (6, _), (7, _)]) hx hb dX6_ghostAt_45 hl (Nat.le_of_ble_eq_true rfl) rfl (fun ls hl => ?_)
      refine lv_aload hx hb dX6_ghostAt_47 (lv_at hl 0 rfl) ?_
      refine lv_aload hx hb dX6_ghostAt_49 (lv_at hl 4 rfl) ?_
      refine gf_4_0 C hR kv4 tw_211 dX6_ghostAt_51 ?_
      refine lv_iload_n hx hb dX6_ghostAt_54 rfl (lv_at hl 2 rfl) ?_
      obtain ⟨v_3, ev_3, hf⟩ := x_bd hf
      refine x_cVi2 C hR hS (S_X2_placeAt (x_kP hR (x_k hR 13 rfl) g2) ev_3) (x_kP hR (x_k hR 13 rfl) g2) (by decide) rfl mf_X2_placeAt tw_1180 (Nat.le_of_ble_eq_true rfl) (Nat.le_of_ble_eq_true rfl) hl.1 (Nat.le_of_ble_eq_true rfl) dX6_ghostAt_55 ⟨Nat.le_refl _, Nat.le_refl _⟩ (fun H locs hR hS => ?_)
      refine lv_istore (lv' := [(9, _), (8, _), (0, _), (2, _), (3, _), (4, _), (5, _), (6, _), (7, _)]) hx hb dX6_ghostAt_58 hl (Nat.le_of_ble_eq_true rfl) rfl (fun ls hl => ?_)
      refine lv_aload hx hb dX6_ghostAt_60 (lv_at hl 1 rfl) ?_
      refine gf_2_4 C hR (x_kP hR (x_k hR 13 rfl) g2) tw_265 dX6_ghostAt_62 ?_
      refine gf_4_7 C hR (kf_2_1 hR (x_kP hR (x_k hR 13 rfl) g2)) tw_231 dX6_ghostAt_65 ?_
      obtain ⟨t4, et4, hf⟩ := x_lt hf
      refine x_nmi et4 ?_
      refine lv_istore (lv' := [(10, _), (9, _), (8, _), (0, _), (2, _), (3, _), (4, _), (5, _), (6, _), (7, _)]) hx hb dX6_ghostAt_68 hl (Nat.le_of_ble_eq_true rfl) rfl (fun ls hl => ?_)
      refine lv_iload hx hb dX6_ghostAt_70 (lv_at hl 1 rfl) ?_
      refine lv_iconst (v := (-1)) hx hb dX6_ghostAt_72 rfl ?_
      have kM5 : ∀ (ls : Array Slot) (H : Heap) (locs : List Loc), lv_has ls 11 [(0, .ref (oX O + 49)), (2, .int v2), (3, .int v3), (4, .ref v4), (5, .int (if v_3 = (-1) then v5 else (if (h.1 v4 7) ≤ t4 then v5 else (if t4 ≤ v5 then v5 else (if (f_X2_cardWith ((oX O + 13) + 6 + 3 * v7.toNatClampNeg) h v_3 v3) = (-1) then v5 else t4))))), (6, .int (if v_3 = (-1) then v6 else (if (h.1 v4 7) ≤ t4 then v6 else (if t4 ≤ v5 then v6 else (if (f_X2_cardWith ((oX O + 13) + 6 + 3 * v7.toNatClampNeg) h v_3 v3) = (-1) then v6 else (f_X2_cardWith ((oX O + 13) + 6 + 3 * v7.toNatClampNeg) h v_3 v3)))))), (7, .int v7)] → x_R O K h H → va_S (oA O) s.heap H locs → W p l e (x_rm 2 44) s m args below meth c H locs 0 0 (MQ below (x_Qc O K h (some (.int r))) args s 0 0 (oA O)) (F0 m 119 ls []) := by
        intro ls H locs hl hR hS
        refine lv_iinc (k := 6) (v := _ + 1) (lv' := [(7, _), (0, _), (2, _), (3, _), (4, _), (5, _), (6, _)]) hx hb dX6_ghostAt_119 hl rfl (x_inc 1 1 rfl _) (Nat.le_of_ble_eq_true rfl) rfl (fun ls hl => ?_)
        refine lv_goto (tgt := 23) hx hb dX6_ghostAt_122 rfl ?_
        exact ih ls _ _ _ _ _ _ _ _ kv4 (lv_sub hl [1, 2, 3, 4, 5, 6, 0] rfl) hR hS hf
      refine lv_icmp_eq (tgt := 119) hx hb dX6_ghostAt_73 rfl (fun hc => ?_) (fun hc => ?_)
      · try simp only [if_pos hc] at kM5
        exact kM5 ls _ _ (lv_sub hl [3, 4, 5, 6, 7, 8, 9] rfl) hR hS
      · try simp only [if_neg hc] at kM5
        refine lv_iload hx hb dX6_ghostAt_76 (lv_at hl 0 rfl) ?_
        refine lv_aload hx hb dX6_ghostAt_78 (lv_at hl 6 rfl) ?_
        refine gf_4_7 C hR kv4 tw_231 dX6_ghostAt_80 ?_
        refine lv_icmp_ge (tgt := 119) hx hb dX6_ghostAt_83 rfl (fun hc => ?_) (fun hc => ?_)
        · try simp only [if_pos hc] at kM5
          exact kM5 ls _ _ (lv_sub hl [3, 4, 5, 6, 7, 8, 9] rfl) hR hS
        · try simp only [if_neg hc] at kM5
          refine lv_iload hx hb dX6_ghostAt_86 (lv_at hl 0 rfl) ?_
          refine lv_iload hx hb dX6_ghostAt_88 (lv_at hl 7 rfl) ?_
          refine lv_icmp_le (tgt := 119) hx hb dX6_ghostAt_90 rfl (fun hc => ?_) (fun hc => ?_)
          · try simp only [if_pos hc] at kM5
            exact kM5 ls _ _ (lv_sub hl [3, 4, 5, 6, 7, 8, 9] rfl) hR hS
          · try simp only [if_neg hc] at kM5
            refine lv_aload hx hb dX6_ghostAt_93 (lv_at hl 2 rfl) ?_
            refine lv_iload hx hb dX6_ghostAt_95 (lv_at hl 1 rfl) ?_
            refine lv_iload_n hx hb dX6_ghostAt_97 rfl (lv_at hl 5 rfl) ?_
            refine x_cVi2 C hR hS (S_X2_cardWith (x_kP hR (x_k hR 13 rfl) g2) rfl) (x_kP hR (x_k hR 13 rfl) g2) (by decide) rfl mf_X2_cardWith tw_1172 (Nat.le_of_ble_eq_true rfl) (Nat.le_of_ble_eq_true rfl) hl.1 (Nat.le_of_ble_eq_true rfl) dX6_ghostAt_98 ⟨Nat.le_refl _, Nat.le_refl _⟩ (fun H locs hR hS => ?_)
            refine lv_iconst (v := (-1)) hx hb dX6_ghostAt_101 rfl ?_
            refine lv_icmp_eq (tgt := 119) hx hb dX6_ghostAt_102 rfl (fun hc => ?_) (fun hc => ?_)
            · try simp only [if_pos hc] at kM5
              exact kM5 ls _ _ (lv_sub hl [3, 4, 5, 6, 7, 8, 9] rfl) hR hS
            · try simp only [if_neg hc] at kM5
              refine lv_iload hx hb dX6_ghostAt_105 (lv_at hl 0 rfl) ?_
              refine lv_istore (lv' := [(5, _), (10, _), (9, _), (8, _), (0, _), (2, _), (3, _), (4, _), (6, _), (7, _)]) hx hb dX6_ghostAt_107 hl (Nat.le_of_ble_eq_true rfl) rfl (fun ls hl => ?_)
              refine lv_aload hx hb dX6_ghostAt_109 (lv_at hl 3 rfl) ?_
              refine lv_iload hx hb dX6_ghostAt_111 (lv_at hl 2 rfl) ?_
              refine lv_iload_n hx hb dX6_ghostAt_113 rfl (lv_at hl 6 rfl) ?_
              refine x_cVi2 C hR hS (S_X2_cardWith (x_kP hR (x_k hR 13 rfl) g2) rfl) (x_kP hR (x_k hR 13 rfl) g2) (by decide) rfl mf_X2_cardWith tw_1172 (Nat.le_of_ble_eq_true rfl) (Nat.le_of_ble_eq_true rfl) hl.1 (Nat.le_of_ble_eq_true rfl) dX6_ghostAt_114 ⟨Nat.le_refl _, Nat.le_refl _⟩ (fun H locs hR hS => ?_)
              refine lv_istore (lv' := [(6, _), (5, _), (10, _), (9, _), (8, _), (0, _), (2, _), (3, _), (4, _), (7, _)]) hx hb dX6_ghostAt_117 hl (Nat.le_of_ble_eq_true rfl) rfl (fun ls hl => ?_)
              exact kM5 ls _ _ (lv_sub hl [5, 6, 7, 8, 1, 0, 9] rfl) hR hS
set_option maxRecDepth 20000 in
theorem S_X6_ghostAt {l : Launch} {O : XO} {K : XK} {h : XH} {v1 : Int32} {v2 : Int32} {v3 : Int32}  {r : Int32}  (hf : f_X6_ghostAt (oX O) h v1 v2 v3 = some r) : x_M l O K yX6_ghostAt cX6_ghostAt 11 (some .int) 2 44 h [.ref (oX O + 49), .int v1, .int v2, .int v3] (some (.int r)) h := by
  refine x_enter (by decide) (Nat.le_of_ble_eq_true rfl) (fun p e s m args below meth c C hR ls hl => ?_)
  have hS : va_S (oA O) s.heap s.heap [] := va_S.rf
  have hx := C.1
  have hb := C.2.1
  have hl : lv_has ls 11 [(0, .ref (oX O + 49)), (1, .int v1), (2, .int v2), (3, .int v3)] := hl
  rw [f_X6_ghostAt] at hf
  refine lv_aload_n hx hb dX6_ghostAt_0 rfl (lv_at hl 0 rfl) ?_
  refine gf_6_0 C hR (x_k hR 49 rfl) tw_409 dX6_ghostAt_1 ?_
  refine gf_7_5 C hR (x_k hR 9 rfl) tw_303 dX6_ghostAt_4 ?_
  refine lv_iload_n hx hb dX6_ghostAt_7 rfl (lv_at hl 1 rfl) ?_
  obtain ⟨g1, hf⟩ := x_gd hf
  refine x_paald C hR (x_k1 (x_k hR 13 rfl)) (x_k2 (x_k hR 13 rfl) g1) dX6_ghostAt_8 ?_
  refine gf_2_4 C hR (x_kP hR (x_k hR 13 rfl) g1) tw_265 dX6_ghostAt_9 ?_
  refine lv_astore (lv' := [(4, _), (0, _), (1, _), (2, _), (3, _)]) hx hb dX6_ghostAt_12 hl (Nat.le_of_ble_eq_true rfl) rfl (fun ls hl => ?_)
  refine lv_iconst (v := (-1)) hx hb dX6_ghostAt_14 rfl ?_
  refine lv_istore (lv' := [(5, _), (4, _), (0, _), (1, _), (2, _), (3, _)]) hx hb dX6_ghostAt_15 hl (Nat.le_of_ble_eq_true rfl) rfl (fun ls hl => ?_)
  refine lv_iconst (v := (-1)) hx hb dX6_ghostAt_17 rfl ?_
  refine lv_istore (lv' := [(6, _), (5, _), (4, _), (0, _), (1, _), (2, _), (3, _)]) hx hb dX6_ghostAt_18 hl (Nat.le_of_ble_eq_true rfl) rfl (fun ls hl => ?_)
  refine lv_iconst (v := 0) hx hb dX6_ghostAt_20 rfl ?_
  refine lv_istore (lv' := [(7, _), (6, _), (5, _), (4, _), (0, _), (1, _), (2, _), (3, _)]) hx hb dX6_ghostAt_21 hl (Nat.le_of_ble_eq_true rfl) rfl (fun ls hl => ?_)
  exact B_X6_ghostAt_23  C  x_FU ls _ _ _ _ _ _ _ _ (kf_2_1 hR (x_kP hR (x_k hR 13 rfl) g1)) (lv_sub hl [4, 6, 7, 3, 2, 1, 0] rfl) hR hS hf
def f_X7_addHouse_12 (a : Nat) : Nat → XH → Int32 → Int32 → Option (Int32 × XH)
  | 0, _, _, _ => none
  | n + 1, h, v1, v2 => if v1 ≤ v2 then x_let (x_i h a 1 ((h.1 a 1) + 1)) (fun h3 => some (((h3.1 a 1) - 1), h3)) else if x_b (((h.1 a 1) * 20) + v2) 120 = true then x_let (x_i h (a + 3) (((h.1 a 1) * 20) + v2).toNatClampNeg (x_rem v2 10)) (fun h5 => f_X7_addHouse_12 a n h5 v1 (v2 + 1)) else none
def f_X7_addHouse (a : Nat) (h : XH) (v1 : Int32) : Option (Int32 × XH) := if x_b (h.1 a 1) 6 = true then x_let (x_i h (a + 2) (h.1 a 1).toNatClampNeg v1) (fun h2 => f_X7_addHouse_12 a x_FU h2 v1 0) else none
set_option maxRecDepth 20000 in
theorem B_X7_addHouse_12 {p : Program} {l : Launch} {e : Env} {s : State} {m : MethodId} {args : Array Value} {below : List Frame} {meth : Method} {c : Code} {O : XO} {K : XK} {a : Nat} {r : Int32} {h' : XH} (k0 : K a = (8, 0))  (C : x_C p s m args meth c O cX7_addHouse 3 RX7 (some .int))   : ∀ (n : Nat) (ls : Array Slot) (H : Heap) (locs : List Loc) (h : XH) (v1 : Int32) (v2 : Int32) (hl : lv_has ls 3 [(0, .ref a), (1, .int v1), (2, .int v2)]) (hR : x_R O K h H) (hS : va_S (oA O) s.heap H locs) (hf : f_X7_addHouse_12 a n h v1 v2 = some (r, h')), W p l e (x_rm 0 0) s m args below meth c H locs 0 0 (MQ below (x_Qc O K h' (some (.int r))) args s 0 0 (oA O)) (F0 m 12 ls []) := by
  have hx := C.1
  have hb := C.2.1
  intro n
  induction n with
  | zero =>
    intro ls H locs h v1 v2 hl hR hS hf
    rw [f_X7_addHouse_12] at hf
    cases hf
  | succ n ih =>
    intro ls H locs h v1 v2 hl hR hS hf
    rw [f_X7_addHouse_12] at hf
    refine lv_iload_n hx hb dX7_addHouse_12 rfl (lv_at hl 2 rfl) ?_
    refine lv_iload_n hx hb dX7_addHouse_13 rfl (lv_at hl 1 rfl) ?_
    refine lv_icmp_ge (tgt := 41) hx hb dX7_addHouse_14 rfl (fun hc => ?_) (fun hc => ?_)
    · have hf := x_ip hc hf
      refine lv_aload_n hx hb dX7_addHouse_41 rfl (lv_at hl 0 rfl) ?_
      refine lv_dup hx hb dX7_addHouse_42 rfl ?_
      refine gf_7_1 C hR k0 tw_289 dX7_addHouse_43 ?_
      refine lv_iconst (v := 1) hx hb dX7_addHouse_46 rfl ?_
      refine lv_iadd hx hb dX7_addHouse_47 ?_
      obtain ⟨h3, eh3, hf⟩ := x_lt hf
      refine pf_7_1 C hR hS k0 tw_289 dX7_addHouse_48 (fun H locs hR hS => ?_)
      rw [← eh3] at hR
      refine lv_aload_n hx hb dX7_addHouse_51 rfl (lv_at hl 0 rfl) ?_
      refine gf_7_1 C hR k0 tw_289 dX7_addHouse_52 ?_
      refine lv_iconst (v := 1) hx hb dX7_addHouse_55 rfl ?_
      refine lv_isub hx hb dX7_addHouse_56 ?_
      cases hf
      exact x_iret C hR hS dX7_addHouse_57
    · have hf := x_in hc hf
      refine lv_aload_n hx hb dX7_addHouse_17 rfl (lv_at hl 0 rfl) ?_
      refine gf_7_3 C hR k0 tw_294 dX7_addHouse_18 ?_
      refine lv_aload_n hx hb dX7_addHouse_21 rfl (lv_at hl 0 rfl) ?_
      refine gf_7_1 C hR k0 tw_289 dX7_addHouse_22 ?_
      refine lv_bipush (v := 20) hx hb dX7_addHouse_25 rfl ?_
      refine lv_imul hx hb dX7_addHouse_27 ?_
      refine lv_iload_n hx hb dX7_addHouse_28 rfl (lv_at hl 2 rfl) ?_
      refine lv_iadd hx hb dX7_addHouse_29 ?_
      refine lv_iload_n hx hb dX7_addHouse_30 rfl (lv_at hl 2 rfl) ?_
      refine lv_bipush (v := 10) hx hb dX7_addHouse_31 rfl ?_
      refine lv_irem hx hb dX7_addHouse_33 (by decide) ?_
      obtain ⟨g4, hf⟩ := x_gd hf
      obtain ⟨h5, eh5, hf⟩ := x_lt hf
      refine x_iast C hR hS (x_k1 (kf_7_3 hR k0)) (x_k2 (kf_7_3 hR k0) g4) dX7_addHouse_34 (fun H locs hR hS => ?_)
      rw [← eh5] at hR
      refine lv_iinc (k := 2) (v := _ + 1) (lv' := [(2, _), (0, _), (1, _)]) hx hb dX7_addHouse_35 hl rfl (x_inc 1 1 rfl _) (Nat.le_of_ble_eq_true rfl) rfl (fun ls hl => ?_)
      refine lv_goto (tgt := 12) hx hb dX7_addHouse_38 rfl ?_
      exact ih ls _ _ h5 _ _  (lv_sub hl [1, 2, 0] rfl) hR hS hf
set_option maxRecDepth 20000 in
theorem S_X7_addHouse {l : Launch} {O : XO} {K : XK} {h : XH} {a : Nat} {v1 : Int32}  {r : Int32} {h' : XH} (k0 : K a = (8, 0)) (hf : f_X7_addHouse a h v1 = some (r, h')) : x_M l O K yX7_addHouse cX7_addHouse 3 (some .int) 0 0 h [.ref a, .int v1] (some (.int r)) h' := by
  refine x_enter (by decide) (Nat.le_of_ble_eq_true rfl) (fun p e s m args below meth c C hR ls hl => ?_)
  have hS : va_S (oA O) s.heap s.heap [] := va_S.rf
  have hx := C.1
  have hb := C.2.1
  have hl : lv_has ls 3 [(0, .ref a), (1, .int v1)] := hl
  rw [f_X7_addHouse] at hf
  refine lv_aload_n hx hb dX7_addHouse_0 rfl (lv_at hl 0 rfl) ?_
  refine gf_7_2 C hR k0 tw_291 dX7_addHouse_1 ?_
  refine lv_aload_n hx hb dX7_addHouse_4 rfl (lv_at hl 0 rfl) ?_
  refine gf_7_1 C hR k0 tw_289 dX7_addHouse_5 ?_
  refine lv_iload_n hx hb dX7_addHouse_8 rfl (lv_at hl 1 rfl) ?_
  obtain ⟨g1, hf⟩ := x_gd hf
  obtain ⟨h2, eh2, hf⟩ := x_lt hf
  refine x_iast C hR hS (x_k1 (kf_7_2 hR k0)) (x_k2 (kf_7_2 hR k0) g1) dX7_addHouse_9 (fun H locs hR hS => ?_)
  rw [← eh2] at hR
  refine lv_iconst (v := 0) hx hb dX7_addHouse_10 rfl ?_
  refine lv_istore_n (lv' := [(2, _), (0, _), (1, _)]) hx hb dX7_addHouse_11 rfl hl (Nat.le_of_ble_eq_true rfl) rfl (fun ls hl => ?_)
  exact B_X7_addHouse_12 k0 C  x_FU ls _ _ h2 _ _  (lv_sub hl [1, 2, 0] rfl) hR hS hf
def f_X7_lookOf (a : Nat) (h : XH) (v1 : Int32) (v2 : Int32) : Option Int32 := if x_b ((v1 * 20) + v2) 120 = true then some (h.1 (a + 3) ((v1 * 20) + v2).toNatClampNeg) else none
set_option maxRecDepth 20000 in
theorem S_X7_lookOf {l : Launch} {O : XO} {K : XK} {h : XH} {a : Nat} {v1 : Int32} {v2 : Int32}  {r : Int32} (k0 : K a = (8, 0)) (hf : f_X7_lookOf a h v1 v2 = some r) : x_M l O K yX7_lookOf cX7_lookOf 3 (some .int) 0 0 h [.ref a, .int v1, .int v2] (some (.int r)) h := by
  refine x_enter (by decide) (Nat.le_of_ble_eq_true rfl) (fun p e s m args below meth c C hR ls hl => ?_)
  have hS : va_S (oA O) s.heap s.heap [] := va_S.rf
  have hx := C.1
  have hb := C.2.1
  have hl : lv_has ls 3 [(0, .ref a), (1, .int v1), (2, .int v2)] := hl
  rw [f_X7_lookOf] at hf
  refine lv_aload_n hx hb dX7_lookOf_0 rfl (lv_at hl 0 rfl) ?_
  refine gf_7_3 C hR k0 tw_294 dX7_lookOf_1 ?_
  refine lv_iload_n hx hb dX7_lookOf_4 rfl (lv_at hl 1 rfl) ?_
  refine lv_bipush (v := 20) hx hb dX7_lookOf_5 rfl ?_
  refine lv_imul hx hb dX7_lookOf_7 ?_
  refine lv_iload_n hx hb dX7_lookOf_8 rfl (lv_at hl 2 rfl) ?_
  refine lv_iadd hx hb dX7_lookOf_9 ?_
  obtain ⟨g1, hf⟩ := x_gd hf
  refine x_iald C hR (x_k1 (kf_7_3 hR k0)) (x_k2 (kf_7_3 hR k0) g1) dX7_lookOf_10 ?_
  cases hf
  exact x_iret C hR hS dX7_lookOf_11
def f_X7_doorsThatLook_65 (k5 : Int32 → Int32 → Int32 → Int32 → Option Int32) (a : Nat) (h : XH) (v1 : Int32) (v2 : Int32) (v3 : Int32) (v4 : Int32) : Option Int32 := k5 v1 v2 v3 (v4 + 1)
def f_X7_doorsThatLook_17 (k5 : Int32 → Int32 → Int32 → Int32 → Option Int32) (a : Nat) (h : XH) : Nat → Int32 → Int32 → Int32 → Int32 → Int32 → Option Int32
  | 0, _, _, _, _, _ => none
  | n + 1, v1, v2, v3, v4, v5 => if x_b v4 6 = true then if (h.1 (a + 2) v4.toNatClampNeg) ≤ v5 then f_X7_doorsThatLook_65 k5 a h v1 v2 v3 v4 else if ((x_shr v2 v4) &&& 1) = 1 then Option.bind (f_X7_lookOf a h v4 v5) (fun v_2 => x_let ((v3 + (if v_2 = v1 then 1 else 0)) : Int32) (fun t4 => f_X7_doorsThatLook_17 k5 a h n v1 v2 t4 v4 (v5 + 1))) else f_X7_doorsThatLook_65 k5 a h v1 v2 v3 v4 else none
def f_X7_doorsThatLook_5 (a : Nat) (h : XH) : Nat → Int32 → Int32 → Int32 → Int32 → Option Int32
  | 0, _, _, _, _ => none
  | n + 1, v1, v2, v3, v4 => if (h.1 a 1) ≤ v4 then some v3 else f_X7_doorsThatLook_17 (f_X7_doorsThatLook_5 a h n) a h x_FU v1 v2 v3 v4 0
def f_X7_doorsThatLook (a : Nat) (h : XH) (v1 : Int32) (v2 : Int32) : Option Int32 := f_X7_doorsThatLook_5 a h x_FU v1 v2 0 0
set_option maxRecDepth 20000 in
theorem B_X7_doorsThatLook_65 {p : Program} {l : Launch} {e : Env} {s : State} {m : MethodId} {args : Array Value} {below : List Frame} {meth : Method} {c : Code} {O : XO} {K : XK} {a : Nat} {h : XH} {r : Int32} (k0 : K a = (8, 0)) {k5 : Int32 → Int32 → Int32 → Int32 → Option Int32} (C : x_C p s m args meth c O cX7_doorsThatLook 6 RX7 (some .int)) (hk5 : ∀ (ls : Array Slot) (H : Heap) (locs : List Loc) (v1 : Int32) (v2 : Int32) (v3 : Int32) (v4 : Int32), lv_has ls 6 [(0, .ref a), (1, .int v1), (2, .int v2), (3, .int v3), (4, .int v4)] → x_R O K h H → va_S (oA O) s.heap H locs → k5 v1 v2 v3 v4 = some r → W p l e (x_rm 1 22) s m args below meth c H locs 0 0 (MQ below (x_Qc O K h (some (.int r))) args s 0 0 (oA O)) (F0 m 5 ls []))  (ls : Array Slot) (H : Heap) (locs : List Loc) (v1 : Int32) (v2 : Int32) (v3 : Int32) (v4 : Int32) (hl : lv_has ls 6 [(0, .ref a), (1, .int v1), (2, .int v2), (3, .int v3), (4, .int v4)]) (hR : x_R O K h H) (hS : va_S (oA O) s.heap H locs) (hf : f_X7_doorsThatLook_65 k5 a h v1 v2 v3 v4 = some r) : W p l e (x_rm 1 22) s m args below meth c H locs 0 0 (MQ below (x_Qc O K h (some (.int r))) args s 0 0 (oA O)) (F0 m 65 ls []) := by
  have hx := C.1
  have hb := C.2.1
  rw [f_X7_doorsThatLook_65] at hf
  refine lv_iinc (k := 4) (v := _ + 1) (lv' := [(4, _), (0, _), (1, _), (2, _), (3, _)]) hx hb dX7_doorsThatLook_65 hl rfl (x_inc 1 1 rfl _) (Nat.le_of_ble_eq_true rfl) rfl (fun ls hl => ?_)
  refine lv_goto (tgt := 5) hx hb dX7_doorsThatLook_68 rfl ?_
  exact hk5 ls _ _ _ _ _ _  (lv_sub hl [1, 2, 3, 4, 0] rfl) hR hS hf
set_option maxRecDepth 20000 in
theorem B_X7_doorsThatLook_17 {p : Program} {l : Launch} {e : Env} {s : State} {m : MethodId} {args : Array Value} {below : List Frame} {meth : Method} {c : Code} {O : XO} {K : XK} {a : Nat} {h : XH} {r : Int32} (k0 : K a = (8, 0)) {k5 : Int32 → Int32 → Int32 → Int32 → Option Int32} (C : x_C p s m args meth c O cX7_doorsThatLook 6 RX7 (some .int)) (hk5 : ∀ (ls : Array Slot) (H : Heap) (locs : List Loc) (v1 : Int32) (v2 : Int32) (v3 : Int32) (v4 : Int32), lv_has ls 6 [(0, .ref a), (1, .int v1), (2, .int v2), (3, .int v3), (4, .int v4)] → x_R O K h H → va_S (oA O) s.heap H locs → k5 v1 v2 v3 v4 = some r → W p l e (x_rm 1 22) s m args below meth c H locs 0 0 (MQ below (x_Qc O K h (some (.int r))) args s 0 0 (oA O)) (F0 m 5 ls []))  : ∀ (n : Nat) (ls : Array Slot) (H : Heap) (locs : List Loc) (v1 : Int32) (v2 : Int32) (v3 : Int32) (v4 : Int32) (v5 : Int32) (hl : lv_has ls 6 [(0, .ref a), (1, .int v1), (2, .int v2), (3, .int v3), (4, .int v4), (5, .int v5)]) (hR : x_R O K h H) (hS : va_S (oA O) s.heap H locs) (hf : f_X7_doorsThatLook_17 k5 a h n v1 v2 v3 v4 v5 = some r), W p l e (x_rm 1 22) s m args below meth c H locs 0 0 (MQ below (x_Qc O K h (some (.int r))) args s 0 0 (oA O)) (F0 m 17 ls []) := by
  have hx := C.1
  have hb := C.2.1
  intro n
  induction n with
  | zero =>
    intro ls H locs v1 v2 v3 v4 v5 hl hR hS hf
    rw [f_X7_doorsThatLook_17] at hf
    cases hf
  | succ n ih =>
    intro ls H locs v1 v2 v3 v4 v5 hl hR hS hf
    rw [f_X7_doorsThatLook_17] at hf
    refine lv_iload hx hb dX7_doorsThatLook_17 (lv_at hl 5 rfl) ?_
    refine lv_aload_n hx hb dX7_doorsThatLook_19 rfl (lv_at hl 0 rfl) ?_
    refine gf_7_2 C hR k0 tw_291 dX7_doorsThatLook_20 ?_
    refine lv_iload hx hb dX7_doorsThatLook_23 (lv_at hl 4 rfl) ?_
    obtain ⟨g1, hf⟩ := x_gd hf
    refine x_iald C hR (x_k1 (kf_7_2 hR k0)) (x_k2 (kf_7_2 hR k0) g1) dX7_doorsThatLook_25 ?_
    refine lv_icmp_ge (tgt := 65) hx hb dX7_doorsThatLook_26 rfl (fun hc => ?_) (fun hc => ?_)
    · have hf := x_ip hc hf
      exact B_X7_doorsThatLook_65 k0 C hk5  ls _ _ _ _ _ _  (lv_sub hl [0, 1, 2, 3, 4] rfl) hR hS hf
    · have hf := x_in hc hf
      refine lv_iload_n hx hb dX7_doorsThatLook_29 rfl (lv_at hl 2 rfl) ?_
      refine lv_iload hx hb dX7_doorsThatLook_30 (lv_at hl 4 rfl) ?_
      refine lv_ishr hx hb dX7_doorsThatLook_32 ?_
      refine lv_iconst (v := 1) hx hb dX7_doorsThatLook_33 rfl ?_
      refine lv_iand hx hb dX7_doorsThatLook_34 ?_
      refine lv_iconst (v := 1) hx hb dX7_doorsThatLook_35 rfl ?_
      refine lv_icmp_ne (tgt := 65) hx hb dX7_doorsThatLook_36 rfl (fun hc => ?_) (fun hc => ?_)
      · have hf := x_in hc hf
        exact B_X7_doorsThatLook_65 k0 C hk5  ls _ _ _ _ _ _  (lv_sub hl [0, 1, 2, 3, 4] rfl) hR hS hf
      · have hf := x_ip hc hf
        refine lv_iload_n hx hb dX7_doorsThatLook_39 rfl (lv_at hl 3 rfl) ?_
        refine lv_aload_n hx hb dX7_doorsThatLook_40 rfl (lv_at hl 0 rfl) ?_
        refine lv_iload hx hb dX7_doorsThatLook_41 (lv_at hl 4 rfl) ?_
        refine lv_iload hx hb dX7_doorsThatLook_43 (lv_at hl 5 rfl) ?_
        obtain ⟨v_2, ev_2, hf⟩ := x_bd hf
        refine x_cVi2 C hR hS (S_X7_lookOf k0 ev_2) k0 (by decide) rfl mf_X7_lookOf tw_555 (Nat.le_of_ble_eq_true rfl) (Nat.le_of_ble_eq_true rfl) hl.1 (Nat.le_of_ble_eq_true rfl) dX7_doorsThatLook_45 ⟨Nat.le_refl _, Nat.le_refl _⟩ (fun H locs hR hS => ?_)
        refine lv_iload_n hx hb dX7_doorsThatLook_48 rfl (lv_at hl 1 rfl) ?_
        have kM3 : ∀ (ls : Array Slot) (H : Heap) (locs : List Loc), lv_has ls 6 [(0, .ref a), (1, .int v1), (2, .int v2), (4, .int v4), (5, .int v5)] → x_R O K h H → va_S (oA O) s.heap H locs → W p l e (x_rm 1 22) s m args below meth c H locs 0 0 (MQ below (x_Qc O K h (some (.int r))) args s 0 0 (oA O)) (F0 m 57 ls [.int (if v_2 = v1 then 1 else 0), .int v3]) := by
          intro ls H locs hl hR hS
          refine lv_iadd hx hb dX7_doorsThatLook_57 ?_
          obtain ⟨t4, et4, hf⟩ := x_lt hf
          refine x_nmi et4 ?_
          refine lv_istore_n (lv' := [(3, _), (0, _), (1, _), (2, _), (4, _), (5, _)]) hx hb dX7_doorsThatLook_58 rfl hl (Nat.le_of_ble_eq_true rfl) rfl (fun ls hl => ?_)
          refine lv_iinc (k := 5) (v := _ + 1) (lv' := [(5, _), (3, _), (0, _), (1, _), (2, _), (4, _)]) hx hb dX7_doorsThatLook_59 hl rfl (x_inc 1 1 rfl _) (Nat.le_of_ble_eq_true rfl) rfl (fun ls hl => ?_)
          refine lv_goto (tgt := 17) hx hb dX7_doorsThatLook_62 rfl ?_
          exact ih ls _ _ _ _ _ _ _  (lv_sub hl [2, 3, 4, 1, 5, 0] rfl) hR hS hf
        refine lv_icmp_ne (tgt := 56) hx hb dX7_doorsThatLook_49 rfl (fun hc => ?_) (fun hc => ?_)
        · try simp only [if_neg hc] at kM3
          refine lv_iconst (v := 0) hx hb dX7_doorsThatLook_56 rfl ?_
          exact kM3 ls _ _ (lv_sub hl [0, 1, 2, 4, 5] rfl) hR hS
        · try simp only [if_pos hc] at kM3
          refine lv_iconst (v := 1) hx hb dX7_doorsThatLook_52 rfl ?_
          refine lv_goto (tgt := 57) hx hb dX7_doorsThatLook_53 rfl ?_
          exact kM3 ls _ _ (lv_sub hl [0, 1, 2, 4, 5] rfl) hR hS
set_option maxRecDepth 20000 in
theorem B_X7_doorsThatLook_5 {p : Program} {l : Launch} {e : Env} {s : State} {m : MethodId} {args : Array Value} {below : List Frame} {meth : Method} {c : Code} {O : XO} {K : XK} {a : Nat} {h : XH} {r : Int32} (k0 : K a = (8, 0))  (C : x_C p s m args meth c O cX7_doorsThatLook 6 RX7 (some .int))   : ∀ (n : Nat) (ls : Array Slot) (H : Heap) (locs : List Loc) (v1 : Int32) (v2 : Int32) (v3 : Int32) (v4 : Int32) (hl : lv_has ls 6 [(0, .ref a), (1, .int v1), (2, .int v2), (3, .int v3), (4, .int v4)]) (hR : x_R O K h H) (hS : va_S (oA O) s.heap H locs) (hf : f_X7_doorsThatLook_5 a h n v1 v2 v3 v4 = some r), W p l e (x_rm 1 22) s m args below meth c H locs 0 0 (MQ below (x_Qc O K h (some (.int r))) args s 0 0 (oA O)) (F0 m 5 ls []) := by
  have hx := C.1
  have hb := C.2.1
  intro n
  induction n with
  | zero =>
    intro ls H locs v1 v2 v3 v4 hl hR hS hf
    rw [f_X7_doorsThatLook_5] at hf
    cases hf
  | succ n ih =>
    intro ls H locs v1 v2 v3 v4 hl hR hS hf
    rw [f_X7_doorsThatLook_5] at hf
    refine lv_iload hx hb dX7_doorsThatLook_5 (lv_at hl 4 rfl) ?_
    refine lv_aload_n hx hb dX7_doorsThatLook_7 rfl (lv_at hl 0 rfl) ?_
    refine gf_7_1 C hR k0 tw_289 dX7_doorsThatLook_8 ?_
    refine lv_icmp_ge (tgt := 71) hx hb dX7_doorsThatLook_11 rfl (fun hc => ?_) (fun hc => ?_)
    · have hf := x_ip hc hf
      refine lv_iload_n hx hb dX7_doorsThatLook_71 rfl (lv_at hl 3 rfl) ?_
      cases hf
      exact x_iret C hR hS dX7_doorsThatLook_72
    · have hf := x_in hc hf
      refine lv_iconst (v := 0) hx hb dX7_doorsThatLook_14 rfl ?_
      refine lv_istore (lv' := [(5, _), (0, _), (1, _), (2, _), (3, _), (4, _)]) hx hb dX7_doorsThatLook_15 hl (Nat.le_of_ble_eq_true rfl) rfl (fun ls hl => ?_)
      exact B_X7_doorsThatLook_17 k0 C ih x_FU ls _ _ _ _ _ _ _  (lv_sub hl [1, 2, 3, 4, 5, 0] rfl) hR hS hf
set_option maxRecDepth 20000 in
theorem S_X7_doorsThatLook {l : Launch} {O : XO} {K : XK} {h : XH} {a : Nat} {v1 : Int32} {v2 : Int32}  {r : Int32} (k0 : K a = (8, 0)) (hf : f_X7_doorsThatLook a h v1 v2 = some r) : x_M l O K yX7_doorsThatLook cX7_doorsThatLook 6 (some .int) 1 22 h [.ref a, .int v1, .int v2] (some (.int r)) h := by
  refine x_enter (by decide) (Nat.le_of_ble_eq_true rfl) (fun p e s m args below meth c C hR ls hl => ?_)
  have hS : va_S (oA O) s.heap s.heap [] := va_S.rf
  have hx := C.1
  have hb := C.2.1
  have hl : lv_has ls 6 [(0, .ref a), (1, .int v1), (2, .int v2)] := hl
  rw [f_X7_doorsThatLook] at hf
  refine lv_iconst (v := 0) hx hb dX7_doorsThatLook_0 rfl ?_
  refine lv_istore_n (lv' := [(3, _), (0, _), (1, _), (2, _)]) hx hb dX7_doorsThatLook_1 rfl hl (Nat.le_of_ble_eq_true rfl) rfl (fun ls hl => ?_)
  refine lv_iconst (v := 0) hx hb dX7_doorsThatLook_2 rfl ?_
  refine lv_istore (lv' := [(4, _), (3, _), (0, _), (1, _), (2, _)]) hx hb dX7_doorsThatLook_3 hl (Nat.le_of_ble_eq_true rfl) rfl (fun ls hl => ?_)
  exact B_X7_doorsThatLook_5 k0 C  x_FU ls _ _ _ _ _ _  (lv_sub hl [2, 3, 4, 1, 0] rfl) hR hS hf
def f_X7_doorsInAll_4 (a : Nat) (h : XH) : Nat → Int32 → Int32 → Option Int32
  | 0, _, _ => none
  | n + 1, v1, v2 => if (h.1 a 1) ≤ v2 then some v1 else if x_b v2 6 = true then x_let ((v1 + (h.1 (a + 2) v2.toNatClampNeg)) : Int32) (fun t2 => f_X7_doorsInAll_4 a h n t2 (v2 + 1)) else none
def f_X7_doorsInAll (a : Nat) (h : XH) : Option Int32 := f_X7_doorsInAll_4 a h x_FU 0 0
set_option maxRecDepth 20000 in
theorem B_X7_doorsInAll_4 {p : Program} {l : Launch} {e : Env} {s : State} {m : MethodId} {args : Array Value} {below : List Frame} {meth : Method} {c : Code} {O : XO} {K : XK} {a : Nat} {h : XH} {r : Int32} (k0 : K a = (8, 0))  (C : x_C p s m args meth c O cX7_doorsInAll 3 RX7 (some .int))   : ∀ (n : Nat) (ls : Array Slot) (H : Heap) (locs : List Loc) (v1 : Int32) (v2 : Int32) (hl : lv_has ls 3 [(0, .ref a), (1, .int v1), (2, .int v2)]) (hR : x_R O K h H) (hS : va_S (oA O) s.heap H locs) (hf : f_X7_doorsInAll_4 a h n v1 v2 = some r), W p l e (x_rm 0 0) s m args below meth c H locs 0 0 (MQ below (x_Qc O K h (some (.int r))) args s 0 0 (oA O)) (F0 m 4 ls []) := by
  have hx := C.1
  have hb := C.2.1
  intro n
  induction n with
  | zero =>
    intro ls H locs v1 v2 hl hR hS hf
    rw [f_X7_doorsInAll_4] at hf
    cases hf
  | succ n ih =>
    intro ls H locs v1 v2 hl hR hS hf
    rw [f_X7_doorsInAll_4] at hf
    refine lv_iload_n hx hb dX7_doorsInAll_4 rfl (lv_at hl 2 rfl) ?_
    refine lv_aload_n hx hb dX7_doorsInAll_5 rfl (lv_at hl 0 rfl) ?_
    refine gf_7_1 C hR k0 tw_289 dX7_doorsInAll_6 ?_
    refine lv_icmp_ge (tgt := 27) hx hb dX7_doorsInAll_9 rfl (fun hc => ?_) (fun hc => ?_)
    · have hf := x_ip hc hf
      refine lv_iload_n hx hb dX7_doorsInAll_27 rfl (lv_at hl 1 rfl) ?_
      cases hf
      exact x_iret C hR hS dX7_doorsInAll_28
    · have hf := x_in hc hf
      refine lv_iload_n hx hb dX7_doorsInAll_12 rfl (lv_at hl 1 rfl) ?_
      refine lv_aload_n hx hb dX7_doorsInAll_13 rfl (lv_at hl 0 rfl) ?_
      refine gf_7_2 C hR k0 tw_291 dX7_doorsInAll_14 ?_
      refine lv_iload_n hx hb dX7_doorsInAll_17 rfl (lv_at hl 2 rfl) ?_
      obtain ⟨g1, hf⟩ := x_gd hf
      refine x_iald C hR (x_k1 (kf_7_2 hR k0)) (x_k2 (kf_7_2 hR k0) g1) dX7_doorsInAll_18 ?_
      refine lv_iadd hx hb dX7_doorsInAll_19 ?_
      obtain ⟨t2, et2, hf⟩ := x_lt hf
      refine x_nmi et2 ?_
      refine lv_istore_n (lv' := [(1, _), (0, _), (2, _)]) hx hb dX7_doorsInAll_20 rfl hl (Nat.le_of_ble_eq_true rfl) rfl (fun ls hl => ?_)
      refine lv_iinc (k := 2) (v := _ + 1) (lv' := [(2, _), (1, _), (0, _)]) hx hb dX7_doorsInAll_21 hl rfl (x_inc 1 1 rfl _) (Nat.le_of_ble_eq_true rfl) rfl (fun ls hl => ?_)
      refine lv_goto (tgt := 4) hx hb dX7_doorsInAll_24 rfl ?_
      exact ih ls _ _ _ _  (lv_sub hl [2, 1, 0] rfl) hR hS hf
set_option maxRecDepth 20000 in
theorem S_X7_doorsInAll {l : Launch} {O : XO} {K : XK} {h : XH} {a : Nat}  {r : Int32} (k0 : K a = (8, 0)) (hf : f_X7_doorsInAll a h = some r) : x_M l O K yX7_doorsInAll cX7_doorsInAll 3 (some .int) 0 0 h [.ref a] (some (.int r)) h := by
  refine x_enter (by decide) (Nat.le_of_ble_eq_true rfl) (fun p e s m args below meth c C hR ls hl => ?_)
  have hS : va_S (oA O) s.heap s.heap [] := va_S.rf
  have hx := C.1
  have hb := C.2.1
  have hl : lv_has ls 3 [(0, .ref a)] := hl
  rw [f_X7_doorsInAll] at hf
  refine lv_iconst (v := 0) hx hb dX7_doorsInAll_0 rfl ?_
  refine lv_istore_n (lv' := [(1, _), (0, _)]) hx hb dX7_doorsInAll_1 rfl hl (Nat.le_of_ble_eq_true rfl) rfl (fun ls hl => ?_)
  refine lv_iconst (v := 0) hx hb dX7_doorsInAll_2 rfl ?_
  refine lv_istore_n (lv' := [(2, _), (1, _), (0, _)]) hx hb dX7_doorsInAll_3 rfl hl (Nat.le_of_ble_eq_true rfl) rfl (fun ls hl => ?_)
  exact B_X7_doorsInAll_4 k0 C  x_FU ls _ _ _ _  (lv_sub hl [2, 1, 0] rfl) hR hS hf
def f_X7_rightInAll_38 (k4 : Int32 → Int32 → Option Int32) (a : Nat) (h : XH) (v2 : Int32) (s0 : Int32) (s1 : Int32) : Option Int32 := k4 (s0 + s1) (v2 + 1)
def f_X7_rightInAll_4 (a : Nat) (h : XH) : Nat → Int32 → Int32 → Option Int32
  | 0, _, _ => none
  | n + 1, v1, v2 => if (h.1 a 4) ≤ v2 then some v1 else if x_b v2 8 = true then if (h.1 ((a + 4) + 6 + 3 * v2.toNatClampNeg) 3) = 0 then f_X7_rightInAll_38 (f_X7_rightInAll_4 a h n) a h v2 v1 0 else if x_b v2 8 = true then Option.bind (f_X2_rightOnes ((a + 4) + 6 + 3 * v2.toNatClampNeg) h) (fun v_3 => f_X7_rightInAll_38 (f_X7_rightInAll_4 a h n) a h v2 v1 v_3) else none else none
def f_X7_rightInAll (a : Nat) (h : XH) : Option Int32 := f_X7_rightInAll_4 a h x_FU 0 0
set_option maxRecDepth 20000 in
theorem B_X7_rightInAll_38 {p : Program} {l : Launch} {e : Env} {s : State} {m : MethodId} {args : Array Value} {below : List Frame} {meth : Method} {c : Code} {O : XO} {K : XK} {a : Nat} {h : XH} {r : Int32} (k0 : K a = (8, 0)) {k4 : Int32 → Int32 → Option Int32} (C : x_C p s m args meth c O cX7_rightInAll 3 RX7 (some .int)) (hk4 : ∀ (ls : Array Slot) (H : Heap) (locs : List Loc) (v1 : Int32) (v2 : Int32), lv_has ls 3 [(0, .ref a), (1, .int v1), (2, .int v2)] → x_R O K h H → va_S (oA O) s.heap H locs → k4 v1 v2 = some r → W p l e (x_rm 2 43) s m args below meth c H locs 0 0 (MQ below (x_Qc O K h (some (.int r))) args s 0 0 (oA O)) (F0 m 4 ls []))  (ls : Array Slot) (H : Heap) (locs : List Loc) (v2 : Int32) (s0 : Int32) (s1 : Int32) (hl : lv_has ls 3 [(0, .ref a), (2, .int v2)]) (hR : x_R O K h H) (hS : va_S (oA O) s.heap H locs) (hf : f_X7_rightInAll_38 k4 a h v2 s0 s1 = some r) : W p l e (x_rm 2 43) s m args below meth c H locs 0 0 (MQ below (x_Qc O K h (some (.int r))) args s 0 0 (oA O)) (F0 m 38 ls [.int s1, .int s0]) := by
  have hx := C.1
  have hb := C.2.1
  rw [f_X7_rightInAll_38] at hf
  refine lv_iadd hx hb dX7_rightInAll_38 ?_
  refine lv_istore_n (lv' := [(1, _), (0, _), (2, _)]) hx hb dX7_rightInAll_39 rfl hl (Nat.le_of_ble_eq_true rfl) rfl (fun ls hl => ?_)
  refine lv_iinc (k := 2) (v := _ + 1) (lv' := [(2, _), (1, _), (0, _)]) hx hb dX7_rightInAll_40 hl rfl (x_inc 1 1 rfl _) (Nat.le_of_ble_eq_true rfl) rfl (fun ls hl => ?_)
  refine lv_goto (tgt := 4) hx hb dX7_rightInAll_43 rfl ?_
  exact hk4 ls _ _ _ _  (lv_sub hl [2, 1, 0] rfl) hR hS hf
set_option maxRecDepth 20000 in
theorem B_X7_rightInAll_4 {p : Program} {l : Launch} {e : Env} {s : State} {m : MethodId} {args : Array Value} {below : List Frame} {meth : Method} {c : Code} {O : XO} {K : XK} {a : Nat} {h : XH} {r : Int32} (k0 : K a = (8, 0))  (C : x_C p s m args meth c O cX7_rightInAll 3 RX7 (some .int))   : ∀ (n : Nat) (ls : Array Slot) (H : Heap) (locs : List Loc) (v1 : Int32) (v2 : Int32) (hl : lv_has ls 3 [(0, .ref a), (1, .int v1), (2, .int v2)]) (hR : x_R O K h H) (hS : va_S (oA O) s.heap H locs) (hf : f_X7_rightInAll_4 a h n v1 v2 = some r), W p l e (x_rm 2 43) s m args below meth c H locs 0 0 (MQ below (x_Qc O K h (some (.int r))) args s 0 0 (oA O)) (F0 m 4 ls []) := by
  have hx := C.1
  have hb := C.2.1
  intro n
  induction n with
  | zero =>
    intro ls H locs v1 v2 hl hR hS hf
    rw [f_X7_rightInAll_4] at hf
    cases hf
  | succ n ih =>
    intro ls H locs v1 v2 hl hR hS hf
    rw [f_X7_rightInAll_4] at hf
    refine lv_iload_n hx hb dX7_rightInAll_4 rfl (lv_at hl 2 rfl) ?_
    refine lv_aload_n hx hb dX7_rightInAll_5 rfl (lv_at hl 0 rfl) ?_
    refine gf_7_4 C hR k0 tw_296 dX7_rightInAll_6 ?_
    refine lv_icmp_ge (tgt := 46) hx hb dX7_rightInAll_9 rfl (fun hc => ?_) (fun hc => ?_)
    · have hf := x_ip hc hf
      refine lv_iload_n hx hb dX7_rightInAll_46 rfl (lv_at hl 1 rfl) ?_
      cases hf
      exact x_iret C hR hS dX7_rightInAll_47
    · have hf := x_in hc hf
      refine lv_iload_n hx hb dX7_rightInAll_12 rfl (lv_at hl 1 rfl) ?_
      refine lv_aload_n hx hb dX7_rightInAll_13 rfl (lv_at hl 0 rfl) ?_
      refine gf_7_5 C hR k0 tw_301 dX7_rightInAll_14 ?_
      refine lv_iload_n hx hb dX7_rightInAll_17 rfl (lv_at hl 2 rfl) ?_
      obtain ⟨g1, hf⟩ := x_gd hf
      refine x_paald C hR (x_k1 (kf_7_4 hR k0)) (x_k2 (kf_7_4 hR k0) g1) dX7_rightInAll_18 ?_
      refine gf_2_3 C hR (x_kP hR (kf_7_4 hR k0) g1) tw_259 dX7_rightInAll_19 ?_
      refine lv_if_eq (tgt := 37) hx hb dX7_rightInAll_22 rfl (fun hc => ?_) (fun hc => ?_)
      · have hf := x_ip hc hf
        refine lv_iconst (v := 0) hx hb dX7_rightInAll_37 rfl ?_
        exact B_X7_rightInAll_38 k0 C ih  ls _ _ _ _ _  (lv_sub hl [0, 2] rfl) hR hS hf
      · have hf := x_in hc hf
        refine lv_aload_n hx hb dX7_rightInAll_25 rfl (lv_at hl 0 rfl) ?_
        refine gf_7_5 C hR k0 tw_301 dX7_rightInAll_26 ?_
        refine lv_iload_n hx hb dX7_rightInAll_29 rfl (lv_at hl 2 rfl) ?_
        obtain ⟨g2, hf⟩ := x_gd hf
        refine x_paald C hR (x_k1 (kf_7_4 hR k0)) (x_k2 (kf_7_4 hR k0) g2) dX7_rightInAll_30 ?_
        obtain ⟨v_3, ev_3, hf⟩ := x_bd hf
        refine x_cVi0 C hR hS (S_X2_rightOnes (x_kP hR (kf_7_4 hR k0) g2) ev_3) (x_kP hR (kf_7_4 hR k0) g2) (by decide) rfl mf_X2_rightOnes tw_614 (Nat.le_of_ble_eq_true rfl) (Nat.le_of_ble_eq_true rfl) hl.1 (Nat.le_of_ble_eq_true rfl) dX7_rightInAll_31 ⟨Nat.le_refl _, Nat.le_refl _⟩ (fun H locs hR hS => ?_)
        refine lv_goto (tgt := 38) hx hb dX7_rightInAll_34 rfl ?_
        exact B_X7_rightInAll_38 k0 C ih  ls _ _ _ _ _  (lv_sub hl [0, 2] rfl) hR hS hf
set_option maxRecDepth 20000 in
theorem S_X7_rightInAll {l : Launch} {O : XO} {K : XK} {h : XH} {a : Nat}  {r : Int32} (k0 : K a = (8, 0)) (hf : f_X7_rightInAll a h = some r) : x_M l O K yX7_rightInAll cX7_rightInAll 3 (some .int) 2 43 h [.ref a] (some (.int r)) h := by
  refine x_enter (by decide) (Nat.le_of_ble_eq_true rfl) (fun p e s m args below meth c C hR ls hl => ?_)
  have hS : va_S (oA O) s.heap s.heap [] := va_S.rf
  have hx := C.1
  have hb := C.2.1
  have hl : lv_has ls 3 [(0, .ref a)] := hl
  rw [f_X7_rightInAll] at hf
  refine lv_iconst (v := 0) hx hb dX7_rightInAll_0 rfl ?_
  refine lv_istore_n (lv' := [(1, _), (0, _)]) hx hb dX7_rightInAll_1 rfl hl (Nat.le_of_ble_eq_true rfl) rfl (fun ls hl => ?_)
  refine lv_iconst (v := 0) hx hb dX7_rightInAll_2 rfl ?_
  refine lv_istore_n (lv' := [(2, _), (1, _), (0, _)]) hx hb dX7_rightInAll_3 rfl hl (Nat.le_of_ble_eq_true rfl) rfl (fun ls hl => ?_)
  exact B_X7_rightInAll_4 k0 C  x_FU ls _ _ _ _  (lv_sub hl [2, 1, 0] rfl) hR hS hf
def f_X7_lastMoment (a : Nat) (h : XH) : Option Int32 := if 1 ≤ (h.1 a 12) then if x_b ((h.1 a 12) - 1) 6 = true then some (h.1 (a + 7) ((h.1 a 12) - 1).toNatClampNeg) else none else some 0
set_option maxRecDepth 20000 in
theorem S_X7_lastMoment {l : Launch} {O : XO} {K : XK} {h : XH} {a : Nat}  {r : Int32} (k0 : K a = (8, 0)) (hf : f_X7_lastMoment a h = some r) : x_M l O K yX7_lastMoment cX7_lastMoment 1 (some .int) 0 0 h [.ref a] (some (.int r)) h := by
  refine x_enter (by decide) (Nat.le_of_ble_eq_true rfl) (fun p e s m args below meth c C hR ls hl => ?_)
  have hS : va_S (oA O) s.heap s.heap [] := va_S.rf
  have hx := C.1
  have hb := C.2.1
  have hl : lv_has ls 1 [(0, .ref a)] := hl
  rw [f_X7_lastMoment] at hf
  refine lv_aload_n hx hb dX7_lastMoment_0 rfl (lv_at hl 0 rfl) ?_
  refine gf_7_12 C hR k0 tw_321 dX7_lastMoment_1 ?_
  refine lv_iconst (v := 1) hx hb dX7_lastMoment_4 rfl ?_
  refine lv_icmp_ge (tgt := 12) hx hb dX7_lastMoment_5 rfl (fun hc => ?_) (fun hc => ?_)
  · have hf := x_ip hc hf
    refine lv_aload_n hx hb dX7_lastMoment_12 rfl (lv_at hl 0 rfl) ?_
    refine gf_7_13 C hR k0 tw_324 dX7_lastMoment_13 ?_
    refine lv_aload_n hx hb dX7_lastMoment_16 rfl (lv_at hl 0 rfl) ?_
    refine gf_7_12 C hR k0 tw_321 dX7_lastMoment_17 ?_
    refine lv_iconst (v := 1) hx hb dX7_lastMoment_20 rfl ?_
    refine lv_isub hx hb dX7_lastMoment_21 ?_
    obtain ⟨g1, hf⟩ := x_gd hf
    refine x_iald C hR (x_k1 (kf_7_7 hR k0)) (x_k2 (kf_7_7 hR k0) g1) dX7_lastMoment_22 ?_
    cases hf
    exact x_iret C hR hS dX7_lastMoment_23
  · have hf := x_in hc hf
    refine lv_iconst (v := 0) hx hb dX7_lastMoment_8 rfl ?_
    refine lv_goto (tgt := 23) hx hb dX7_lastMoment_9 rfl ?_
    cases hf
    exact x_iret C hR hS dX7_lastMoment_23
def f_X8_hasRoomForFive (x : Nat) (h : XH) : Int32 := (if 400 < ((h.1 (x + 1) 1) + 20) then 0 else 1)
set_option maxRecDepth 20000 in
theorem S_X8_hasRoomForFive {l : Launch} {O : XO} {K : XK} {h : XH}  {r : Int32}  (hf : f_X8_hasRoomForFive (oX O) h = r) : x_M l O K yX8_hasRoomForFive cX8_hasRoomForFive 1 (some .boolean) 0 0 h [.ref (oX O + 1)] (some (.int r)) h := by
  refine x_enter (by decide) (Nat.le_of_ble_eq_true rfl) (fun p e s m args below meth c C hR ls hl => ?_)
  have hS : va_S (oA O) s.heap s.heap [] := va_S.rf
  have hx := C.1
  have hb := C.2.1
  have hl : lv_has ls 1 [(0, .ref (oX O + 1))] := hl
  rw [f_X8_hasRoomForFive] at hf
  refine lv_aload_n hx hb dX8_hasRoomForFive_0 rfl (lv_at hl 0 rfl) ?_
  refine gf_8_1 C hR (x_k hR 1 rfl) tw_150 dX8_hasRoomForFive_1 ?_
  refine lv_bipush (v := 20) hx hb dX8_hasRoomForFive_4 rfl ?_
  refine lv_iadd hx hb dX8_hasRoomForFive_6 ?_
  refine lv_sipush (v := 400) hx hb dX8_hasRoomForFive_7 rfl ?_
  have kM1 : ∀ (ls : Array Slot) (H : Heap) (locs : List Loc), lv_has ls 1 [] → x_R O K h H → va_S (oA O) s.heap H locs → W p l e (x_rm 0 0) s m args below meth c H locs 0 0 (MQ below (x_Qc O K h (some (.int r))) args s 0 0 (oA O)) (F0 m 18 ls [.int (if 400 < ((h.1 (oX O + 1) 1) + 20) then 0 else 1)]) := by
    intro ls H locs hl hR hS
    cases hf
    exact x_zret C hR hS (by (repeat' split) <;> first | exact Or.inl rfl | exact Or.inr rfl) dX8_hasRoomForFive_18
  refine lv_icmp_gt (tgt := 17) hx hb dX8_hasRoomForFive_10 rfl (fun hc => ?_) (fun hc => ?_)
  · try simp only [if_pos hc] at kM1
    refine lv_iconst (v := 0) hx hb dX8_hasRoomForFive_17 rfl ?_
    exact kM1 ls _ _ (lv_sub hl [] rfl) hR hS
  · try simp only [if_neg hc] at kM1
    refine lv_iconst (v := 1) hx hb dX8_hasRoomForFive_13 rfl ?_
    refine lv_goto (tgt := 18) hx hb dX8_hasRoomForFive_14 rfl ?_
    exact kM1 ls _ _ (lv_sub hl [] rfl) hR hS
def f_X8_addNumber_3 (x : Nat) : Nat → XH → Int32 → Int32 → Option (XH)
  | 0, _, _, _ => none
  | n + 1, h, v1, v2 => if v2 < 0 then some h else if 400 ≤ (h.1 (x + 1) 1) then some h else if x_b (h.1 (x + 1) 1) 400 = true then x_let (x_i h (x + 2) (h.1 (x + 1) 1).toNatClampNeg ((x_ushr v1 v2) &&& 255)) (fun h2 => x_let (x_i h2 (x + 1) 1 ((h2.1 (x + 1) 1) + 1)) (fun h3 => f_X8_addNumber_3 x n h3 v1 (v2 + (-8)))) else none
def f_X8_addNumber (x : Nat) (h : XH) (v1 : Int32) : Option (XH) := f_X8_addNumber_3 x x_FU h v1 24
set_option maxRecDepth 20000 in
theorem B_X8_addNumber_3 {p : Program} {l : Launch} {e : Env} {s : State} {m : MethodId} {args : Array Value} {below : List Frame} {meth : Method} {c : Code} {O : XO} {K : XK} {h' : XH}   (C : x_C p s m args meth c O cX8_addNumber 3 RX8 none)   : ∀ (n : Nat) (ls : Array Slot) (H : Heap) (locs : List Loc) (h : XH) (v1 : Int32) (v2 : Int32) (hl : lv_has ls 3 [(0, .ref (oX O + 1)), (1, .int v1), (2, .int v2)]) (hR : x_R O K h H) (hS : va_S (oA O) s.heap H locs) (hf : f_X8_addNumber_3 (oX O) n h v1 v2 = some h'), W p l e (x_rm 0 0) s m args below meth c H locs 0 0 (MQ below (x_Qc O K h' none) args s 0 0 (oA O)) (F0 m 3 ls []) := by
  have hx := C.1
  have hb := C.2.1
  intro n
  induction n with
  | zero =>
    intro ls H locs h v1 v2 hl hR hS hf
    rw [f_X8_addNumber_3] at hf
    cases hf
  | succ n ih =>
    intro ls H locs h v1 v2 hl hR hS hf
    rw [f_X8_addNumber_3] at hf
    refine lv_iload_n hx hb dX8_addNumber_3 rfl (lv_at hl 2 rfl) ?_
    refine lv_if_lt (tgt := 49) hx hb dX8_addNumber_4 rfl (fun hc => ?_) (fun hc => ?_)
    · have hf := x_ip hc hf
      cases hf
      exact x_vret C hR hS dX8_addNumber_49
    · have hf := x_in hc hf
      refine lv_aload_n hx hb dX8_addNumber_7 rfl (lv_at hl 0 rfl) ?_
      refine gf_8_1 C hR (x_k hR 1 rfl) tw_150 dX8_addNumber_8 ?_
      refine lv_sipush (v := 400) hx hb dX8_addNumber_11 rfl ?_
      refine lv_icmp_ge (tgt := 49) hx hb dX8_addNumber_14 rfl (fun hc => ?_) (fun hc => ?_)
      · have hf := x_ip hc hf
        cases hf
        exact x_vret C hR hS dX8_addNumber_49
      · have hf := x_in hc hf
        refine lv_aload_n hx hb dX8_addNumber_17 rfl (lv_at hl 0 rfl) ?_
        refine gf_8_0 C hR (x_k hR 1 rfl) tw_149 dX8_addNumber_18 ?_
        refine lv_aload_n hx hb dX8_addNumber_21 rfl (lv_at hl 0 rfl) ?_
        refine gf_8_1 C hR (x_k hR 1 rfl) tw_150 dX8_addNumber_22 ?_
        refine lv_iload_n hx hb dX8_addNumber_25 rfl (lv_at hl 1 rfl) ?_
        refine lv_iload_n hx hb dX8_addNumber_26 rfl (lv_at hl 2 rfl) ?_
        refine lv_iushr hx hb dX8_addNumber_27 rfl ?_
        refine lv_sipush (v := 255) hx hb dX8_addNumber_28 rfl ?_
        refine lv_iand hx hb dX8_addNumber_31 ?_
        obtain ⟨g1, hf⟩ := x_gd hf
        obtain ⟨h2, eh2, hf⟩ := x_lt hf
        refine x_iast C hR hS (x_k1 (x_k hR 2 rfl)) (x_k2 (x_k hR 2 rfl) g1) dX8_addNumber_32 (fun H locs hR hS => ?_)
        rw [← eh2] at hR
        refine lv_aload_n hx hb dX8_addNumber_33 rfl (lv_at hl 0 rfl) ?_
        refine lv_dup hx hb dX8_addNumber_34 rfl ?_
        refine gf_8_1 C hR (x_k hR 1 rfl) tw_150 dX8_addNumber_35 ?_
        refine lv_iconst (v := 1) hx hb dX8_addNumber_38 rfl ?_
        refine lv_iadd hx hb dX8_addNumber_39 ?_
        obtain ⟨h3, eh3, hf⟩ := x_lt hf
        refine pf_8_1 C hR hS (x_k hR 1 rfl) tw_150 dX8_addNumber_40 (fun H locs hR hS => ?_)
        rw [← eh3] at hR
        refine lv_iinc (k := 2) (v := _ + (-8)) (lv' := [(2, _), (0, _), (1, _)]) hx hb dX8_addNumber_43 hl rfl (x_inc (-8) (-8) rfl _) (Nat.le_of_ble_eq_true rfl) rfl (fun ls hl => ?_)
        refine lv_goto (tgt := 3) hx hb dX8_addNumber_46 rfl ?_
        exact ih ls _ _ h3 _ _  (lv_sub hl [1, 2, 0] rfl) hR hS hf
set_option maxRecDepth 20000 in
theorem S_X8_addNumber {l : Launch} {O : XO} {K : XK} {h : XH} {v1 : Int32}  {h' : XH}  (hf : f_X8_addNumber (oX O) h v1 = some h') : x_M l O K yX8_addNumber cX8_addNumber 3 none 0 0 h [.ref (oX O + 1), .int v1] none h' := by
  refine x_enter (by decide) (Nat.le_of_ble_eq_true rfl) (fun p e s m args below meth c C hR ls hl => ?_)
  have hS : va_S (oA O) s.heap s.heap [] := va_S.rf
  have hx := C.1
  have hb := C.2.1
  have hl : lv_has ls 3 [(0, .ref (oX O + 1)), (1, .int v1)] := hl
  rw [f_X8_addNumber] at hf
  refine lv_bipush (v := 24) hx hb dX8_addNumber_0 rfl ?_
  refine lv_istore_n (lv' := [(2, _), (0, _), (1, _)]) hx hb dX8_addNumber_2 rfl hl (Nat.le_of_ble_eq_true rfl) rfl (fun ls hl => ?_)
  exact B_X8_addNumber_3  C  x_FU ls _ _ h _ _  (lv_sub hl [1, 2, 0] rfl) hR hS hf
def f_X8_isLetter (h : XH) (v0 : Int32) : Int32 := (if v0 < 97 then 0 else (if 122 < v0 then 0 else 1))
set_option maxRecDepth 20000 in
theorem S_X8_isLetter {l : Launch} {O : XO} {K : XK} {h : XH} {v0 : Int32}  {r : Int32}  (hf : f_X8_isLetter h v0 = r) : x_M l O K yX8_isLetter cX8_isLetter 1 (some .boolean) 0 0 h [.int v0] (some (.int r)) h := by
  refine x_enter (by decide) (Nat.le_of_ble_eq_true rfl) (fun p e s m args below meth c C hR ls hl => ?_)
  have hS : va_S (oA O) s.heap s.heap [] := va_S.rf
  have hx := C.1
  have hb := C.2.1
  have hl : lv_has ls 1 [(0, .int v0)] := hl
  rw [f_X8_isLetter] at hf
  refine lv_iload_n hx hb dX8_isLetter_0 rfl (lv_at hl 0 rfl) ?_
  refine lv_bipush (v := 97) hx hb dX8_isLetter_1 rfl ?_
  have kM1 : ∀ (ls : Array Slot) (H : Heap) (locs : List Loc), lv_has ls 1 [] → x_R O K h H → va_S (oA O) s.heap H locs → W p l e (x_rm 0 0) s m args below meth c H locs 0 0 (MQ below (x_Qc O K h (some (.int r))) args s 0 0 (oA O)) (F0 m 17 ls [.int (if v0 < 97 then 0 else (if 122 < v0 then 0 else 1))]) := by
    intro ls H locs hl hR hS
    cases hf
    exact x_zret C hR hS (by (repeat' split) <;> first | exact Or.inl rfl | exact Or.inr rfl) dX8_isLetter_17
  refine lv_icmp_lt (tgt := 16) hx hb dX8_isLetter_3 rfl (fun hc => ?_) (fun hc => ?_)
  · try simp only [if_pos hc] at kM1
    refine lv_iconst (v := 0) hx hb dX8_isLetter_16 rfl ?_
    exact kM1 ls _ _ (lv_sub hl [] rfl) hR hS
  · try simp only [if_neg hc] at kM1
    refine lv_iload_n hx hb dX8_isLetter_6 rfl (lv_at hl 0 rfl) ?_
    refine lv_bipush (v := 122) hx hb dX8_isLetter_7 rfl ?_
    refine lv_icmp_gt (tgt := 16) hx hb dX8_isLetter_9 rfl (fun hc => ?_) (fun hc => ?_)
    · try simp only [if_pos hc] at kM1
      refine lv_iconst (v := 0) hx hb dX8_isLetter_16 rfl ?_
      exact kM1 ls _ _ (lv_sub hl [] rfl) hR hS
    · try simp only [if_neg hc] at kM1
      refine lv_iconst (v := 1) hx hb dX8_isLetter_12 rfl ?_
      refine lv_goto (tgt := 17) hx hb dX8_isLetter_13 rfl ?_
      exact kM1 ls _ _ (lv_sub hl [] rfl) hR hS
def f_X8_isDigit (h : XH) (v0 : Int32) : Int32 := (if v0 < 48 then 0 else (if 57 < v0 then 0 else 1))
set_option maxRecDepth 20000 in
theorem S_X8_isDigit {l : Launch} {O : XO} {K : XK} {h : XH} {v0 : Int32}  {r : Int32}  (hf : f_X8_isDigit h v0 = r) : x_M l O K yX8_isDigit cX8_isDigit 1 (some .boolean) 0 0 h [.int v0] (some (.int r)) h := by
  refine x_enter (by decide) (Nat.le_of_ble_eq_true rfl) (fun p e s m args below meth c C hR ls hl => ?_)
  have hS : va_S (oA O) s.heap s.heap [] := va_S.rf
  have hx := C.1
  have hb := C.2.1
  have hl : lv_has ls 1 [(0, .int v0)] := hl
  rw [f_X8_isDigit] at hf
  refine lv_iload_n hx hb dX8_isDigit_0 rfl (lv_at hl 0 rfl) ?_
  refine lv_bipush (v := 48) hx hb dX8_isDigit_1 rfl ?_
  have kM1 : ∀ (ls : Array Slot) (H : Heap) (locs : List Loc), lv_has ls 1 [] → x_R O K h H → va_S (oA O) s.heap H locs → W p l e (x_rm 0 0) s m args below meth c H locs 0 0 (MQ below (x_Qc O K h (some (.int r))) args s 0 0 (oA O)) (F0 m 17 ls [.int (if v0 < 48 then 0 else (if 57 < v0 then 0 else 1))]) := by
    intro ls H locs hl hR hS
    cases hf
    exact x_zret C hR hS (by (repeat' split) <;> first | exact Or.inl rfl | exact Or.inr rfl) dX8_isDigit_17
  refine lv_icmp_lt (tgt := 16) hx hb dX8_isDigit_3 rfl (fun hc => ?_) (fun hc => ?_)
  · try simp only [if_pos hc] at kM1
    refine lv_iconst (v := 0) hx hb dX8_isDigit_16 rfl ?_
    exact kM1 ls _ _ (lv_sub hl [] rfl) hR hS
  · try simp only [if_neg hc] at kM1
    refine lv_iload_n hx hb dX8_isDigit_6 rfl (lv_at hl 0 rfl) ?_
    refine lv_bipush (v := 57) hx hb dX8_isDigit_7 rfl ?_
    refine lv_icmp_gt (tgt := 16) hx hb dX8_isDigit_9 rfl (fun hc => ?_) (fun hc => ?_)
    · try simp only [if_pos hc] at kM1
      refine lv_iconst (v := 0) hx hb dX8_isDigit_16 rfl ?_
      exact kM1 ls _ _ (lv_sub hl [] rfl) hR hS
    · try simp only [if_neg hc] at kM1
      refine lv_iconst (v := 1) hx hb dX8_isDigit_12 rfl ?_
      refine lv_goto (tgt := 17) hx hb dX8_isDigit_13 rfl ?_
      exact kM1 ls _ _ (lv_sub hl [] rfl) hR hS
def f_X8_here (x : Nat) (h : XH) : Option Int32 := if x_b (h.1 (x + 1) 9) 401 = true then some (h.1 (x + 3) (h.1 (x + 1) 9).toNatClampNeg) else none
set_option maxRecDepth 20000 in
theorem S_X8_here {l : Launch} {O : XO} {K : XK} {h : XH}  {r : Int32}  (hf : f_X8_here (oX O) h = some r) : x_M l O K yX8_here cX8_here 1 (some .int) 0 0 h [.ref (oX O + 1)] (some (.int r)) h := by
  refine x_enter (by decide) (Nat.le_of_ble_eq_true rfl) (fun p e s m args below meth c C hR ls hl => ?_)
  have hS : va_S (oA O) s.heap s.heap [] := va_S.rf
  have hx := C.1
  have hb := C.2.1
  have hl : lv_has ls 1 [(0, .ref (oX O + 1))] := hl
  rw [f_X8_here] at hf
  refine lv_aload_n hx hb dX8_here_0 rfl (lv_at hl 0 rfl) ?_
  refine gf_8_2 C hR (x_k hR 1 rfl) tw_152 dX8_here_1 ?_
  refine lv_aload_n hx hb dX8_here_4 rfl (lv_at hl 0 rfl) ?_
  refine gf_8_9 C hR (x_k hR 1 rfl) tw_160 dX8_here_5 ?_
  obtain ⟨g1, hf⟩ := x_gd hf
  refine x_iald C hR (x_k1 (x_k hR 3 rfl)) (x_k2 (x_k hR 3 rfl) g1) dX8_here_8 ?_
  cases hf
  exact x_iret C hR hS dX8_here_9
def f_X8_take_30 (x : Nat) (h : XH) : Option (Int32 × XH) := some (0, h)
def f_X8_take (x : Nat) (h : XH) (v1 : Int32) : Option (Int32 × XH) := if 400 ≤ (h.1 (x + 1) 9) then f_X8_take_30 x h else if x_b (h.1 (x + 1) 9) 401 = true then if (h.1 (x + 3) (h.1 (x + 1) 9).toNatClampNeg) = v1 then if v1 = 1099 then f_X8_take_30 x h else x_let (x_i h (x + 1) 9 ((h.1 (x + 1) 9) + 1)) (fun h2 => some (1, h2)) else f_X8_take_30 x h else none
set_option maxRecDepth 20000 in
theorem B_X8_take_30 {p : Program} {l : Launch} {e : Env} {s : State} {m : MethodId} {args : Array Value} {below : List Frame} {meth : Method} {c : Code} {O : XO} {K : XK} {r : Int32} {h' : XH}   (C : x_C p s m args meth c O cX8_take 2 RX8 (some .boolean))   (ls : Array Slot) (H : Heap) (locs : List Loc) (h : XH) (hl : lv_has ls 2 []) (hR : x_R O K h H) (hS : va_S (oA O) s.heap H locs) (hf : f_X8_take_30 (oX O) h = some (r, h')) : W p l e (x_rm 0 0) s m args below meth c H locs 0 0 (MQ below (x_Qc O K h' (some (.int r))) args s 0 0 (oA O)) (F0 m 30 ls []) := by
  have hx := C.1
  have hb := C.2.1
  rw [f_X8_take_30] at hf
  refine lv_iconst (v := 0) hx hb dX8_take_30 rfl ?_
  cases hf
  exact x_zret C hR hS (Or.inl rfl) dX8_take_31
set_option maxRecDepth 20000 in
theorem S_X8_take {l : Launch} {O : XO} {K : XK} {h : XH} {v1 : Int32}  {r : Int32} {h' : XH}  (hf : f_X8_take (oX O) h v1 = some (r, h')) : x_M l O K yX8_take cX8_take 2 (some .boolean) 0 0 h [.ref (oX O + 1), .int v1] (some (.int r)) h' := by
  refine x_enter (by decide) (Nat.le_of_ble_eq_true rfl) (fun p e s m args below meth c C hR ls hl => ?_)
  have hS : va_S (oA O) s.heap s.heap [] := va_S.rf
  have hx := C.1
  have hb := C.2.1
  have hl : lv_has ls 2 [(0, .ref (oX O + 1)), (1, .int v1)] := hl
  rw [f_X8_take] at hf
  refine lv_aload_n hx hb dX8_take_0 rfl (lv_at hl 0 rfl) ?_
  refine gf_8_9 C hR (x_k hR 1 rfl) tw_160 dX8_take_1 ?_
  refine lv_sipush (v := 400) hx hb dX8_take_4 rfl ?_
  refine lv_icmp_ge (tgt := 30) hx hb dX8_take_7 rfl (fun hc => ?_) (fun hc => ?_)
  · have hf := x_ip hc hf
    exact B_X8_take_30  C   ls _ _ h  (lv_sub hl [] rfl) hR hS hf
  · have hf := x_in hc hf
    refine lv_aload_n hx hb dX8_take_10 rfl (lv_at hl 0 rfl) ?_
    refine gf_8_2 C hR (x_k hR 1 rfl) tw_152 dX8_take_11 ?_
    refine lv_aload_n hx hb dX8_take_14 rfl (lv_at hl 0 rfl) ?_
    refine gf_8_9 C hR (x_k hR 1 rfl) tw_160 dX8_take_15 ?_
    obtain ⟨g1, hf⟩ := x_gd hf
    refine x_iald C hR (x_k1 (x_k hR 3 rfl)) (x_k2 (x_k hR 3 rfl) g1) dX8_take_18 ?_
    refine lv_iload_n hx hb dX8_take_19 rfl (lv_at hl 1 rfl) ?_
    refine lv_icmp_ne (tgt := 30) hx hb dX8_take_20 rfl (fun hc => ?_) (fun hc => ?_)
    · have hf := x_in hc hf
      exact B_X8_take_30  C   ls _ _ h  (lv_sub hl [] rfl) hR hS hf
    · have hf := x_ip hc hf
      refine lv_iload_n hx hb dX8_take_23 rfl (lv_at hl 1 rfl) ?_
      refine lv_sipush (v := 1099) hx hb dX8_take_24 rfl ?_
      refine lv_icmp_ne (tgt := 32) hx hb dX8_take_27 rfl (fun hc => ?_) (fun hc => ?_)
      · have hf := x_in hc hf
        refine lv_aload_n hx hb dX8_take_32 rfl (lv_at hl 0 rfl) ?_
        refine lv_dup hx hb dX8_take_33 rfl ?_
        refine gf_8_9 C hR (x_k hR 1 rfl) tw_160 dX8_take_34 ?_
        refine lv_iconst (v := 1) hx hb dX8_take_37 rfl ?_
        refine lv_iadd hx hb dX8_take_38 ?_
        obtain ⟨h2, eh2, hf⟩ := x_lt hf
        refine pf_8_9 C hR hS (x_k hR 1 rfl) tw_160 dX8_take_39 (fun H locs hR hS => ?_)
        rw [← eh2] at hR
        refine lv_iconst (v := 1) hx hb dX8_take_42 rfl ?_
        cases hf
        exact x_zret C hR hS (Or.inr rfl) dX8_take_43
      · have hf := x_ip hc hf
        exact B_X8_take_30  C   ls _ _ h  (lv_sub hl [] rfl) hR hS hf
def f_X8_write (x : Nat) (h : XH) (v1 : Int32) : Option (XH) := if 400 ≤ (h.1 (x + 1) 11) then some h else if x_b (h.1 (x + 1) 11) 400 = true then x_let (x_i h (x + 8) (h.1 (x + 1) 11).toNatClampNeg v1) (fun h2 => x_let (x_i h2 (x + 1) 11 ((h2.1 (x + 1) 11) + 1)) (fun h3 => some h3)) else none
set_option maxRecDepth 20000 in
theorem S_X8_write {l : Launch} {O : XO} {K : XK} {h : XH} {v1 : Int32}  {h' : XH}  (hf : f_X8_write (oX O) h v1 = some h') : x_M l O K yX8_write cX8_write 2 none 0 0 h [.ref (oX O + 1), .int v1] none h' := by
  refine x_enter (by decide) (Nat.le_of_ble_eq_true rfl) (fun p e s m args below meth c C hR ls hl => ?_)
  have hS : va_S (oA O) s.heap s.heap [] := va_S.rf
  have hx := C.1
  have hb := C.2.1
  have hl : lv_has ls 2 [(0, .ref (oX O + 1)), (1, .int v1)] := hl
  rw [f_X8_write] at hf
  refine lv_aload_n hx hb dX8_write_0 rfl (lv_at hl 0 rfl) ?_
  refine gf_8_11 C hR (x_k hR 1 rfl) tw_162 dX8_write_1 ?_
  refine lv_aload_n hx hb dX8_write_4 rfl (lv_at hl 0 rfl) ?_
  refine gf_8_7 C hR (x_k hR 1 rfl) tw_157 dX8_write_5 ?_
  refine x_alenc (v := 400) C hR (x_k hR 8 rfl) rfl dX8_write_8 ?_
  refine lv_icmp_ge (tgt := 32) hx hb dX8_write_9 rfl (fun hc => ?_) (fun hc => ?_)
  · have hf := x_ip hc hf
    cases hf
    exact x_vret C hR hS dX8_write_32
  · have hf := x_in hc hf
    refine lv_aload_n hx hb dX8_write_12 rfl (lv_at hl 0 rfl) ?_
    refine gf_8_7 C hR (x_k hR 1 rfl) tw_157 dX8_write_13 ?_
    refine lv_aload_n hx hb dX8_write_16 rfl (lv_at hl 0 rfl) ?_
    refine gf_8_11 C hR (x_k hR 1 rfl) tw_162 dX8_write_17 ?_
    refine lv_iload_n hx hb dX8_write_20 rfl (lv_at hl 1 rfl) ?_
    obtain ⟨g1, hf⟩ := x_gd hf
    obtain ⟨h2, eh2, hf⟩ := x_lt hf
    refine x_iast C hR hS (x_k1 (x_k hR 8 rfl)) (x_k2 (x_k hR 8 rfl) g1) dX8_write_21 (fun H locs hR hS => ?_)
    rw [← eh2] at hR
    refine lv_aload_n hx hb dX8_write_22 rfl (lv_at hl 0 rfl) ?_
    refine lv_dup hx hb dX8_write_23 rfl ?_
    refine gf_8_11 C hR (x_k hR 1 rfl) tw_162 dX8_write_24 ?_
    refine lv_iconst (v := 1) hx hb dX8_write_27 rfl ?_
    refine lv_iadd hx hb dX8_write_28 ?_
    obtain ⟨h3, eh3, hf⟩ := x_lt hf
    refine pf_8_11 C hR hS (x_k hR 1 rfl) tw_162 dX8_write_29 (fun H locs hR hS => ?_)
    rw [← eh3] at hR
    cases hf
    exact x_vret C hR hS dX8_write_32
def f_X8_readSum_29 (x : Nat) (h : XH) : Option (Int32 × XH) := some (0, h)
def f_X8_readSum_47 (k2 : XH → Int32 → Option (Int32 × XH)) (x : Nat) (h : XH) (v1 : Int32) : Option (Int32 × XH) := Option.bind (f_X8_take x h 1143) (fun q4 => if q4.1 = 0 then some (1, q4.2) else k2 q4.2 (v1 + 1))
def f_X8_readSum_2 (x : Nat) : Nat → XH → Int32 → Option (Int32 × XH)
  | 0, _, _ => none
  | n + 1, h, v1 => if 400 ≤ v1 then some (0, h) else Option.bind (f_X8_here x h) (fun v_1 => if 1020 ≤ v_1 then f_X8_readSum_29 x h else Option.bind (f_X8_take x h v_1) (fun q2 => if q2.1 = 0 then f_X8_readSum_29 x q2.2 else Option.bind (f_X8_write x q2.2 v_1) (fun h3 => if v1 ≤ 0 then f_X8_readSum_47 (f_X8_readSum_2 x n) x h3 v1 else Option.bind (f_X8_write x h3 1143) (fun h5 => f_X8_readSum_47 (f_X8_readSum_2 x n) x h5 v1))))
def f_X8_readSum (x : Nat) (h : XH) : Option (Int32 × XH) := f_X8_readSum_2 x x_FU h 0
set_option maxRecDepth 20000 in
theorem B_X8_readSum_29 {p : Program} {l : Launch} {e : Env} {s : State} {m : MethodId} {args : Array Value} {below : List Frame} {meth : Method} {c : Code} {O : XO} {K : XK} {r : Int32} {h' : XH}   (C : x_C p s m args meth c O cX8_readSum 3 RX8 (some .boolean))   (ls : Array Slot) (H : Heap) (locs : List Loc) (h : XH) (hl : lv_has ls 3 []) (hR : x_R O K h H) (hS : va_S (oA O) s.heap H locs) (hf : f_X8_readSum_29 (oX O) h = some (r, h')) : W p l e (x_rm 1 21) s m args below meth c H locs 0 0 (MQ below (x_Qc O K h' (some (.int r))) args s 0 0 (oA O)) (F0 m 29 ls []) := by
  have hx := C.1
  have hb := C.2.1
  rw [f_X8_readSum_29] at hf
  refine lv_iconst (v := 0) hx hb dX8_readSum_29 rfl ?_
  cases hf
  exact x_zret C hR hS (Or.inl rfl) dX8_readSum_30
set_option maxRecDepth 20000 in
theorem B_X8_readSum_47 {p : Program} {l : Launch} {e : Env} {s : State} {m : MethodId} {args : Array Value} {below : List Frame} {meth : Method} {c : Code} {O : XO} {K : XK} {r : Int32} {h' : XH}  {k2 : XH → Int32 → Option (Int32 × XH)} (C : x_C p s m args meth c O cX8_readSum 3 RX8 (some .boolean)) (hk2 : ∀ (ls : Array Slot) (H : Heap) (locs : List Loc) (h : XH) (v1 : Int32), lv_has ls 3 [(0, .ref (oX O + 1)), (1, .int v1)] → x_R O K h H → va_S (oA O) s.heap H locs → k2 h v1 = some (r, h') → W p l e (x_rm 1 21) s m args below meth c H locs 0 0 (MQ below (x_Qc O K h' (some (.int r))) args s 0 0 (oA O)) (F0 m 2 ls []))  (ls : Array Slot) (H : Heap) (locs : List Loc) (h : XH) (v1 : Int32) (hl : lv_has ls 3 [(0, .ref (oX O + 1)), (1, .int v1)]) (hR : x_R O K h H) (hS : va_S (oA O) s.heap H locs) (hf : f_X8_readSum_47 k2 (oX O) h v1 = some (r, h')) : W p l e (x_rm 1 21) s m args below meth c H locs 0 0 (MQ below (x_Qc O K h' (some (.int r))) args s 0 0 (oA O)) (F0 m 47 ls []) := by
  have hx := C.1
  have hb := C.2.1
  rw [f_X8_readSum_47] at hf
  refine lv_aload_n hx hb dX8_readSum_47 rfl (lv_at hl 0 rfl) ?_
  refine lv_sipush (v := 1143) hx hb dX8_readSum_48 rfl ?_
  obtain ⟨q4, eq4, hf⟩ := x_bd hf
  refine x_cVi1 C hR hS (S_X8_take  eq4) (x_k hR 1 rfl) (by decide) rfl mf_X8_take tw_719 (Nat.le_of_ble_eq_true rfl) (Nat.le_of_ble_eq_true rfl) hl.1 (Nat.le_of_ble_eq_true rfl) dX8_readSum_51 ⟨Nat.le_refl _, Nat.le_refl _⟩ (fun H locs hR hS => ?_)
  refine lv_if_ne (tgt := 59) hx hb dX8_readSum_54 rfl (fun hc => ?_) (fun hc => ?_)
  · have hf := x_in hc hf
    refine lv_iinc (k := 1) (v := _ + 1) (lv' := [(1, _), (0, _)]) hx hb dX8_readSum_59 hl rfl (x_inc 1 1 rfl _) (Nat.le_of_ble_eq_true rfl) rfl (fun ls hl => ?_)
    refine lv_goto (tgt := 2) hx hb dX8_readSum_62 rfl ?_
    exact hk2 ls _ _ q4.2 _  (lv_sub hl [1, 0] rfl) hR hS hf
  · have hf := x_ip hc hf
    refine lv_iconst (v := 1) hx hb dX8_readSum_57 rfl ?_
    cases hf
    exact x_zret C hR hS (Or.inr rfl) dX8_readSum_58
set_option maxRecDepth 20000 in
theorem B_X8_readSum_2 {p : Program} {l : Launch} {e : Env} {s : State} {m : MethodId} {args : Array Value} {below : List Frame} {meth : Method} {c : Code} {O : XO} {K : XK} {r : Int32} {h' : XH}   (C : x_C p s m args meth c O cX8_readSum 3 RX8 (some .boolean))   : ∀ (n : Nat) (ls : Array Slot) (H : Heap) (locs : List Loc) (h : XH) (v1 : Int32) (hl : lv_has ls 3 [(0, .ref (oX O + 1)), (1, .int v1)]) (hR : x_R O K h H) (hS : va_S (oA O) s.heap H locs) (hf : f_X8_readSum_2 (oX O) n h v1 = some (r, h')), W p l e (x_rm 1 21) s m args below meth c H locs 0 0 (MQ below (x_Qc O K h' (some (.int r))) args s 0 0 (oA O)) (F0 m 2 ls []) := by
  have hx := C.1
  have hb := C.2.1
  intro n
  induction n with
  | zero =>
    intro ls H locs h v1 hl hR hS hf
    rw [f_X8_readSum_2] at hf
    cases hf
  | succ n ih =>
    intro ls H locs h v1 hl hR hS hf
    rw [f_X8_readSum_2] at hf
    refine lv_iload_n hx hb dX8_readSum_2 rfl (lv_at hl 1 rfl) ?_
    refine lv_sipush (v := 400) hx hb dX8_readSum_3 rfl ?_
    refine lv_icmp_ge (tgt := 65) hx hb dX8_readSum_6 rfl (fun hc => ?_) (fun hc => ?_)
    · have hf := x_ip hc hf
      refine lv_iconst (v := 0) hx hb dX8_readSum_65 rfl ?_
      cases hf
      exact x_zret C hR hS (Or.inl rfl) dX8_readSum_66
    · have hf := x_in hc hf
      refine lv_aload_n hx hb dX8_readSum_9 rfl (lv_at hl 0 rfl) ?_
      obtain ⟨v_1, ev_1, hf⟩ := x_bd hf
      refine x_cVi0 C hR hS (S_X8_here  ev_1) (x_k hR 1 rfl) (by decide) rfl mf_X8_here tw_711 (Nat.le_of_ble_eq_true rfl) (Nat.le_of_ble_eq_true rfl) hl.1 (Nat.le_of_ble_eq_true rfl) dX8_readSum_10 ⟨Nat.le_refl _, Nat.le_refl _⟩ (fun H locs hR hS => ?_)
      refine lv_istore_n (lv' := [(2, _), (0, _), (1, _)]) hx hb dX8_readSum_13 rfl hl (Nat.le_of_ble_eq_true rfl) rfl (fun ls hl => ?_)
      refine lv_iload_n hx hb dX8_readSum_14 rfl (lv_at hl 0 rfl) ?_
      refine lv_sipush (v := 1020) hx hb dX8_readSum_15 rfl ?_
      refine lv_icmp_ge (tgt := 29) hx hb dX8_readSum_18 rfl (fun hc => ?_) (fun hc => ?_)
      · have hf := x_ip hc hf
        exact B_X8_readSum_29  C   ls _ _ h  (lv_sub hl [] rfl) hR hS hf
      · have hf := x_in hc hf
        refine lv_aload_n hx hb dX8_readSum_21 rfl (lv_at hl 1 rfl) ?_
        refine lv_iload_n hx hb dX8_readSum_22 rfl (lv_at hl 0 rfl) ?_
        obtain ⟨q2, eq2, hf⟩ := x_bd hf
        refine x_cVi1 C hR hS (S_X8_take  eq2) (x_k hR 1 rfl) (by decide) rfl mf_X8_take tw_719 (Nat.le_of_ble_eq_true rfl) (Nat.le_of_ble_eq_true rfl) hl.1 (Nat.le_of_ble_eq_true rfl) dX8_readSum_23 ⟨Nat.le_refl _, Nat.le_refl _⟩ (fun H locs hR hS => ?_)
        refine lv_if_ne (tgt := 31) hx hb dX8_readSum_26 rfl (fun hc => ?_) (fun hc => ?_)
        · have hf := x_in hc hf
          refine lv_aload_n hx hb dX8_readSum_31 rfl (lv_at hl 1 rfl) ?_
          refine lv_iload_n hx hb dX8_readSum_32 rfl (lv_at hl 0 rfl) ?_
          obtain ⟨h3, eh3, hf⟩ := x_bd hf
          refine x_cVv1 C hR hS (S_X8_write  eh3) (x_k hR 1 rfl) (by decide) rfl mf_X8_write tw_735 (Nat.le_of_ble_eq_true rfl) (Nat.le_of_ble_eq_true rfl) hl.1 (Nat.le_of_ble_eq_true rfl) dX8_readSum_33 ⟨Nat.le_refl _, Nat.le_refl _⟩ (fun H locs hR hS => ?_)
          refine lv_iload_n hx hb dX8_readSum_36 rfl (lv_at hl 2 rfl) ?_
          refine lv_if_le (tgt := 47) hx hb dX8_readSum_37 rfl (fun hc => ?_) (fun hc => ?_)
          · have hf := x_ip hc hf
            exact B_X8_readSum_47  C ih  ls _ _ h3 _  (lv_sub hl [1, 2] rfl) hR hS hf
          · have hf := x_in hc hf
            refine lv_aload_n hx hb dX8_readSum_40 rfl (lv_at hl 1 rfl) ?_
            refine lv_sipush (v := 1143) hx hb dX8_readSum_41 rfl ?_
            obtain ⟨h5, eh5, hf⟩ := x_bd hf
            refine x_cVv1 C hR hS (S_X8_write  eh5) (x_k hR 1 rfl) (by decide) rfl mf_X8_write tw_735 (Nat.le_of_ble_eq_true rfl) (Nat.le_of_ble_eq_true rfl) hl.1 (Nat.le_of_ble_eq_true rfl) dX8_readSum_44 ⟨Nat.le_refl _, Nat.le_refl _⟩ (fun H locs hR hS => ?_)
            exact B_X8_readSum_47  C ih  ls _ _ h5 _  (lv_sub hl [1, 2] rfl) hR hS hf
        · have hf := x_ip hc hf
          exact B_X8_readSum_29  C   ls _ _ q2.2  (lv_sub hl [] rfl) hR hS hf
set_option maxRecDepth 20000 in
theorem S_X8_readSum {l : Launch} {O : XO} {K : XK} {h : XH}  {r : Int32} {h' : XH}  (hf : f_X8_readSum (oX O) h = some (r, h')) : x_M l O K yX8_readSum cX8_readSum 3 (some .boolean) 1 21 h [.ref (oX O + 1)] (some (.int r)) h' := by
  refine x_enter (by decide) (Nat.le_of_ble_eq_true rfl) (fun p e s m args below meth c C hR ls hl => ?_)
  have hS : va_S (oA O) s.heap s.heap [] := va_S.rf
  have hx := C.1
  have hb := C.2.1
  have hl : lv_has ls 3 [(0, .ref (oX O + 1))] := hl
  rw [f_X8_readSum] at hf
  refine lv_iconst (v := 0) hx hb dX8_readSum_0 rfl ?_
  refine lv_istore_n (lv' := [(1, _), (0, _)]) hx hb dX8_readSum_1 rfl hl (Nat.le_of_ble_eq_true rfl) rfl (fun ls hl => ?_)
  exact B_X8_readSum_2  C  x_FU ls _ _ h _  (lv_sub hl [1, 0] rfl) hR hS hf
def f_X9_isMet_324 (K : XK) (x : Nat) (h : XH) : Option (Int32 × XH) := some (1, h)
def f_X9_isMet_310 (K : XK) (x : Nat) (h : XH) (v4 : Int32) : Option (Int32 × XH) := if v4 = 0 then f_X9_isMet_324 K x h else if x_b 0 20 = true then some ((if (h.1 (x + 45) (0 : Int32).toNatClampNeg) = 0 then 0 else 1), h) else none
def f_X9_isMet_304 (k6 : XH → Option Nat → Int32 → Int32 → Int32 → Option (Int32 × XH)) (K : XK) (x : Nat) (h : XH) (v1 : Option Nat) (v3 : Int32) (v4 : Int32) (v5 : Int32) : Option (Int32 × XH) := k6 h v1 v3 v4 (v5 + 1)
def f_X9_isMet_90 (k6 : XH → Option Nat → Int32 → Int32 → Int32 → Option (Int32 × XH)) (K : XK) (x : Nat) (h : XH) (v1 : Option Nat) (v3 : Int32) (v4 : Int32) (v5 : Int32) (s1 : Int32) (s2 : Int32) : Option (Int32 × XH) := if x_b s1 20 = true then x_let (x_i h (x + 45) s1.toNatClampNeg s2) (fun h27 => f_X9_isMet_304 k6 K x h27 v1 v3 (v4 + 1) v5) else none
def f_X9_isMet_78 (k6 : XH → Option Nat → Int32 → Int32 → Int32 → Option (Int32 × XH)) (K : XK) (x : Nat) (h : XH) (v1 : Option Nat) (v3 : Int32) (v4 : Int32) (v5 : Int32) (v6 : Int32) (s1 : Int32) : Option (Int32 × XH) := f_X9_isMet_90 k6 K x h v1 v3 v4 v5 s1 v6
def f_X9_isMet_6 (K : XK) (x : Nat) : Nat → XH → Option Nat → Int32 → Int32 → Int32 → Option (Int32 × XH)
  | 0, _, _, _, _, _ => none
  | n + 1, h, v1, v3, v4, v5 => if v3 ≤ v5 then f_X9_isMet_310 K x h v4 else Option.bind v1 (fun r3 => if (nI (K (r3 + 4)).2) ≤ v5 then f_X9_isMet_310 K x h v4 else Option.bind v1 (fun r4 => if x_b v5 (K (r4 + 4)).2 = true then x_let ((h.1 (r4 + 4) v5.toNatClampNeg) : Int32) (fun t6 => if 1040 ≤ t6 then if t6 = 1045 then if v4 < 1 then f_X9_isMet_304 (f_X9_isMet_6 K x n) K x h v1 v3 v4 v5 else if x_b (v4 - 1) 20 = true then if x_b (v4 - 1) 20 = true then x_let (x_i h (x + 45) (v4 - 1).toNatClampNeg (1 - (h.1 (x + 45) (v4 - 1).toNatClampNeg))) (fun h25 => f_X9_isMet_304 (f_X9_isMet_6 K x n) K x h25 v1 v3 v4 v5) else none else none else if v4 < 2 then f_X9_isMet_304 (f_X9_isMet_6 K x n) K x h v1 v3 v4 v5 else if x_b ((v4 + (-1)) - 1) 20 = true then x_let ((h.1 (x + 45) ((v4 + (-1)) - 1).toNatClampNeg) : Int32) (fun t8 => if x_b (v4 + (-1)) 20 = true then x_let ((h.1 (x + 45) (v4 + (-1)).toNatClampNeg) : Int32) (fun t10 => if t6 = 1043 then if x_b ((v4 + (-1)) - 1) 20 = true then x_let (x_i h (x + 45) ((v4 + (-1)) - 1).toNatClampNeg (t8 &&& t10)) (fun h12 => f_X9_isMet_304 (f_X9_isMet_6 K x n) K x h12 v1 v3 (v4 + (-1)) v5) else none else if t6 = 1044 then if x_b ((v4 + (-1)) - 1) 20 = true then x_let (x_i h (x + 45) ((v4 + (-1)) - 1).toNatClampNeg (t8 ||| t10)) (fun h14 => f_X9_isMet_304 (f_X9_isMet_6 K x n) K x h14 v1 v3 (v4 + (-1)) v5) else none else if t6 = 1143 then if x_b ((v4 + (-1)) - 1) 20 = true then x_let (x_i h (x + 45) ((v4 + (-1)) - 1).toNatClampNeg (t8 + t10)) (fun h16 => f_X9_isMet_304 (f_X9_isMet_6 K x n) K x h16 v1 v3 (v4 + (-1)) v5) else none else if t6 = 1160 then if x_b ((v4 + (-1)) - 1) 20 = true then x_let (x_i h (x + 45) ((v4 + (-1)) - 1).toNatClampNeg (if t10 ≤ t8 then 0 else 1)) (fun h19 => f_X9_isMet_304 (f_X9_isMet_6 K x n) K x h19 v1 v3 (v4 + (-1)) v5) else none else if x_b ((v4 + (-1)) - 1) 20 = true then x_let (x_i h (x + 45) ((v4 + (-1)) - 1).toNatClampNeg (if t8 ≤ t10 then 0 else 1)) (fun h22 => f_X9_isMet_304 (f_X9_isMet_6 K x n) K x h22 v1 v3 (v4 + (-1)) v5) else none) else none) else none else if 20 ≤ v4 then f_X9_isMet_304 (f_X9_isMet_6 K x n) K x h v1 v3 v4 v5 else if (t6 - 1000) < 0 then f_X9_isMet_78 (f_X9_isMet_6 K x n) K x h v1 v3 v4 v5 t6 v4 else if (t6 - 1000) < 10 then if x_b (t6 - 1000) 10 = true then f_X9_isMet_90 (f_X9_isMet_6 K x n) K x h v1 v3 v4 v5 v4 (h.1 (x + 44) (t6 - 1000).toNatClampNeg) else none else f_X9_isMet_78 (f_X9_isMet_6 K x n) K x h v1 v3 v4 v5 t6 v4) else none))
def f_X9_isMet (K : XK) (x : Nat) (h : XH) (v1 : Option Nat) (v2 : Int32) (v3 : Int32) : Option (Int32 × XH) := f_X9_isMet_6 K x x_FU h v1 v3 0 v2
set_option maxRecDepth 20000 in
theorem B_X9_isMet_324 {p : Program} {l : Launch} {e : Env} {s : State} {m : MethodId} {args : Array Value} {below : List Frame} {meth : Method} {c : Code} {O : XO} {K : XK} {r : Int32} {h' : XH}   (C : x_C p s m args meth c O cX9_isMet 9 RX9 (some .boolean))   (ls : Array Slot) (H : Heap) (locs : List Loc) (h : XH) (hl : lv_has ls 9 []) (hR : x_R O K h H) (hS : va_S (oA O) s.heap H locs) (hf : f_X9_isMet_324 K (oX O) h = some (r, h')) : W p l e (x_rm 0 0) s m args below meth c H locs 0 0 (MQ below (x_Qc O K h' (some (.int r))) args s 0 0 (oA O)) (F0 m 324 ls []) := by
  have hx := C.1
  have hb := C.2.1
  rw [f_X9_isMet_324] at hf
  refine lv_iconst (v := 1) hx hb dX9_isMet_324 rfl ?_
  refine lv_goto (tgt := 329) hx hb dX9_isMet_325 rfl ?_
  cases hf
  exact x_zret C hR hS (Or.inr rfl) dX9_isMet_329
set_option maxRecDepth 20000 in
theorem B_X9_isMet_310 {p : Program} {l : Launch} {e : Env} {s : State} {m : MethodId} {args : Array Value} {below : List Frame} {meth : Method} {c : Code} {O : XO} {K : XK} {r : Int32} {h' : XH}   (C : x_C p s m args meth c O cX9_isMet 9 RX9 (some .boolean))   (ls : Array Slot) (H : Heap) (locs : List Loc) (h : XH) (v4 : Int32) (hl : lv_has ls 9 [(0, .ref (oX O + 43)), (4, .int v4)]) (hR : x_R O K h H) (hS : va_S (oA O) s.heap H locs) (hf : f_X9_isMet_310 K (oX O) h v4 = some (r, h')) : W p l e (x_rm 0 0) s m args below meth c H locs 0 0 (MQ below (x_Qc O K h' (some (.int r))) args s 0 0 (oA O)) (F0 m 310 ls []) := by
  have hx := C.1
  have hb := C.2.1
  rw [f_X9_isMet_310] at hf
  refine lv_iload hx hb dX9_isMet_310 (lv_at hl 1 rfl) ?_
  refine lv_if_eq (tgt := 324) hx hb dX9_isMet_312 rfl (fun hc => ?_) (fun hc => ?_)
  · have hf := x_ip hc hf
    exact B_X9_isMet_324  C   ls _ _ h  (lv_sub hl [] rfl) hR hS hf
  · have hf := x_in hc hf
    refine lv_aload_n hx hb dX9_isMet_315 rfl (lv_at hl 0 rfl) ?_
    refine gf_9_1 C hR (x_k hR 43 rfl) tw_376 dX9_isMet_316 ?_
    refine lv_iconst (v := 0) hx hb dX9_isMet_319 rfl ?_
    obtain ⟨g1, hf⟩ := x_gd hf
    refine x_iald C hR (x_k1 (x_k hR 45 rfl)) (x_k2 (x_k hR 45 rfl) g1) dX9_isMet_320 ?_
    have kM2 : ∀ (ls : Array Slot) (H : Heap) (locs : List Loc), lv_has ls 9 [] → x_R O K h H → va_S (oA O) s.heap H locs → W p l e (x_rm 0 0) s m args below meth c H locs 0 0 (MQ below (x_Qc O K h' (some (.int r))) args s 0 0 (oA O)) (F0 m 329 ls [.int (if (h.1 (oX O + 45) (0 : Int32).toNatClampNeg) = 0 then 0 else 1)]) := by
      intro ls H locs hl hR hS
      cases hf
      exact x_zret C hR hS (by (repeat' split) <;> first | exact Or.inl rfl | exact Or.inr rfl) dX9_isMet_329
    refine lv_if_eq (tgt := 328) hx hb dX9_isMet_321 rfl (fun hc => ?_) (fun hc => ?_)
    · try simp only [if_pos hc] at kM2
      refine lv_iconst (v := 0) hx hb dX9_isMet_328 rfl ?_
      exact kM2 ls _ _ (lv_sub hl [] rfl) hR hS
    · try simp only [if_neg hc] at kM2
      refine lv_iconst (v := 1) hx hb dX9_isMet_324 rfl ?_
      refine lv_goto (tgt := 329) hx hb dX9_isMet_325 rfl ?_
      exact kM2 ls _ _ (lv_sub hl [] rfl) hR hS
set_option maxRecDepth 20000 in
theorem B_X9_isMet_304 {p : Program} {l : Launch} {e : Env} {s : State} {m : MethodId} {args : Array Value} {below : List Frame} {meth : Method} {c : Code} {O : XO} {K : XK} {r : Int32} {h' : XH}  {k6 : XH → Option Nat → Int32 → Int32 → Int32 → Option (Int32 × XH)} (C : x_C p s m args meth c O cX9_isMet 9 RX9 (some .boolean)) (hk6 : ∀ (ls : Array Slot) (H : Heap) (locs : List Loc) (h : XH) (v1 : Option Nat) (v3 : Int32) (v4 : Int32) (v5 : Int32) (kv1 : ∀ r, v1 = some r → K r = (11, 0)), lv_has ls 9 [(0, .ref (oX O + 43)), (1, va_rf v1), (3, .int v3), (4, .int v4), (5, .int v5)] → x_R O K h H → va_S (oA O) s.heap H locs → k6 h v1 v3 v4 v5 = some (r, h') → W p l e (x_rm 0 0) s m args below meth c H locs 0 0 (MQ below (x_Qc O K h' (some (.int r))) args s 0 0 (oA O)) (F0 m 6 ls []))  (ls : Array Slot) (H : Heap) (locs : List Loc) (h : XH) (v1 : Option Nat) (v3 : Int32) (v4 : Int32) (v5 : Int32) (kv1 : ∀ r, v1 = some r → K r = (11, 0)) (hl : lv_has ls 9 [(0, .ref (oX O + 43)), (1, va_rf v1), (3, .int v3), (4, .int v4), (5, .int v5)]) (hR : x_R O K h H) (hS : va_S (oA O) s.heap H locs) (hf : f_X9_isMet_304 k6 K (oX O) h v1 v3 v4 v5 = some (r, h')) : W p l e (x_rm 0 0) s m args below meth c H locs 0 0 (MQ below (x_Qc O K h' (some (.int r))) args s 0 0 (oA O)) (F0 m 304 ls []) := by
  have hx := C.1
  have hb := C.2.1
  rw [f_X9_isMet_304] at hf
  refine lv_iinc (k := 4) (v := _ + 1) (lv' := [(5, _), (0, _), (1, _), (3, _), (4, _)]) hx hb dX9_isMet_304 hl rfl (x_inc 1 1 rfl _) (Nat.le_of_ble_eq_true rfl) rfl (fun ls hl => ?_)
  refine lv_goto (tgt := 6) hx hb dX9_isMet_307 rfl ?_
  exact hk6 ls _ _ h _ _ _ _ kv1 (lv_sub hl [1, 2, 3, 4, 0] rfl) hR hS hf
set_option maxRecDepth 20000 in
theorem B_X9_isMet_90 {p : Program} {l : Launch} {e : Env} {s : State} {m : MethodId} {args : Array Value} {below : List Frame} {meth : Method} {c : Code} {O : XO} {K : XK} {r : Int32} {h' : XH}  {k6 : XH → Option Nat → Int32 → Int32 → Int32 → Option (Int32 × XH)} (C : x_C p s m args meth c O cX9_isMet 9 RX9 (some .boolean)) (hk6 : ∀ (ls : Array Slot) (H : Heap) (locs : List Loc) (h : XH) (v1 : Option Nat) (v3 : Int32) (v4 : Int32) (v5 : Int32) (kv1 : ∀ r, v1 = some r → K r = (11, 0)), lv_has ls 9 [(0, .ref (oX O + 43)), (1, va_rf v1), (3, .int v3), (4, .int v4), (5, .int v5)] → x_R O K h H → va_S (oA O) s.heap H locs → k6 h v1 v3 v4 v5 = some (r, h') → W p l e (x_rm 0 0) s m args below meth c H locs 0 0 (MQ below (x_Qc O K h' (some (.int r))) args s 0 0 (oA O)) (F0 m 6 ls []))  (ls : Array Slot) (H : Heap) (locs : List Loc) (h : XH) (v1 : Option Nat) (v3 : Int32) (v4 : Int32) (v5 : Int32) (s1 : Int32) (s2 : Int32) (kv1 : ∀ r, v1 = some r → K r = (11, 0)) (hl : lv_has ls 9 [(0, .ref (oX O + 43)), (1, va_rf v1), (3, .int v3), (4, .int v4), (5, .int v5)]) (hR : x_R O K h H) (hS : va_S (oA O) s.heap H locs) (hf : f_X9_isMet_90 k6 K (oX O) h v1 v3 v4 v5 s1 s2 = some (r, h')) : W p l e (x_rm 0 0) s m args below meth c H locs 0 0 (MQ below (x_Qc O K h' (some (.int r))) args s 0 0 (oA O)) (F0 m 90 ls [.int s2, .int s1, .ref (oX O + 45)]) := by
  have hx := C.1
  have hb := C.2.1
  rw [f_X9_isMet_90] at hf
  obtain ⟨g26, hf⟩ := x_gd hf
  obtain ⟨h27, eh27, hf⟩ := x_lt hf
  refine x_iast C hR hS (x_k1 (x_k hR 45 rfl)) (x_k2 (x_k hR 45 rfl) g26) dX9_isMet_90 (fun H locs hR hS => ?_)
  rw [← eh27] at hR
  refine lv_iinc (k := 3) (v := _ + 1) (lv' := [(4, _), (0, _), (1, _), (3, _), (5, _)]) hx hb dX9_isMet_91 hl rfl (x_inc 1 1 rfl _) (Nat.le_of_ble_eq_true rfl) rfl (fun ls hl => ?_)
  refine lv_goto (tgt := 304) hx hb dX9_isMet_94 rfl ?_
  exact B_X9_isMet_304  C hk6  ls _ _ h27 _ _ _ _ kv1 (lv_sub hl [1, 2, 3, 0, 4] rfl) hR hS hf
set_option maxRecDepth 20000 in
theorem B_X9_isMet_78 {p : Program} {l : Launch} {e : Env} {s : State} {m : MethodId} {args : Array Value} {below : List Frame} {meth : Method} {c : Code} {O : XO} {K : XK} {r : Int32} {h' : XH}  {k6 : XH → Option Nat → Int32 → Int32 → Int32 → Option (Int32 × XH)} (C : x_C p s m args meth c O cX9_isMet 9 RX9 (some .boolean)) (hk6 : ∀ (ls : Array Slot) (H : Heap) (locs : List Loc) (h : XH) (v1 : Option Nat) (v3 : Int32) (v4 : Int32) (v5 : Int32) (kv1 : ∀ r, v1 = some r → K r = (11, 0)), lv_has ls 9 [(0, .ref (oX O + 43)), (1, va_rf v1), (3, .int v3), (4, .int v4), (5, .int v5)] → x_R O K h H → va_S (oA O) s.heap H locs → k6 h v1 v3 v4 v5 = some (r, h') → W p l e (x_rm 0 0) s m args below meth c H locs 0 0 (MQ below (x_Qc O K h' (some (.int r))) args s 0 0 (oA O)) (F0 m 6 ls []))  (ls : Array Slot) (H : Heap) (locs : List Loc) (h : XH) (v1 : Option Nat) (v3 : Int32) (v4 : Int32) (v5 : Int32) (v6 : Int32) (s1 : Int32) (kv1 : ∀ r, v1 = some r → K r = (11, 0)) (hl : lv_has ls 9 [(0, .ref (oX O + 43)), (1, va_rf v1), (3, .int v3), (4, .int v4), (5, .int v5), (6, .int v6)]) (hR : x_R O K h H) (hS : va_S (oA O) s.heap H locs) (hf : f_X9_isMet_78 k6 K (oX O) h v1 v3 v4 v5 v6 s1 = some (r, h')) : W p l e (x_rm 0 0) s m args below meth c H locs 0 0 (MQ below (x_Qc O K h' (some (.int r))) args s 0 0 (oA O)) (F0 m 78 ls [.int s1, .ref (oX O + 45)]) := by
  have hx := C.1
  have hb := C.2.1
  rw [f_X9_isMet_78] at hf
  refine lv_iload hx hb dX9_isMet_78 (lv_at hl 5 rfl) ?_
  refine lv_goto (tgt := 90) hx hb dX9_isMet_80 rfl ?_
  exact B_X9_isMet_90  C hk6  ls _ _ h _ _ _ _ _ _ kv1 (lv_sub hl [0, 1, 2, 3, 4] rfl) hR hS hf
set_option maxRecDepth 20000 in
theorem B_X9_isMet_6 {p : Program} {l : Launch} {e : Env} {s : State} {m : MethodId} {args : Array Value} {below : List Frame} {meth : Method} {c : Code} {O : XO} {K : XK} {r : Int32} {h' : XH}   (C : x_C p s m args meth c O cX9_isMet 9 RX9 (some .boolean))   : ∀ (n : Nat) (ls : Array Slot) (H : Heap) (locs : List Loc) (h : XH) (v1 : Option Nat) (v3 : Int32) (v4 : Int32) (v5 : Int32) (kv1 : ∀ r, v1 = some r → K r = (11, 0)) (hl : lv_has ls 9 [(0, .ref (oX O + 43)), (1, va_rf v1), (3, .int v3), (4, .int v4), (5, .int v5)]) (hR : x_R O K h H) (hS : va_S (oA O) s.heap H locs) (hf : f_X9_isMet_6 K (oX O) n h v1 v3 v4 v5 = some (r, h')), W p l e (x_rm 0 0) s m args below meth c H locs 0 0 (MQ below (x_Qc O K h' (some (.int r))) args s 0 0 (oA O)) (F0 m 6 ls []) := by
  have hx := C.1
  have hb := C.2.1
  intro n
  induction n with
  | zero =>
    intro ls H locs h v1 v3 v4 v5 kv1 hl hR hS hf
    rw [f_X9_isMet_6] at hf
    cases hf
  | succ n ih =>
    intro ls H locs h v1 v3 v4 v5 kv1 hl hR hS hf
    rw [f_X9_isMet_6] at hf
    refine lv_iload hx hb dX9_isMet_6 (lv_at hl 4 rfl) ?_
    refine lv_iload_n hx hb dX9_isMet_8 rfl (lv_at hl 2 rfl) ?_
    refine lv_icmp_ge (tgt := 310) hx hb dX9_isMet_9 rfl (fun hc => ?_) (fun hc => ?_)
    · have hf := x_ip hc hf
      exact B_X9_isMet_310  C   ls _ _ h _  (lv_sub hl [0, 3] rfl) hR hS hf
    · have hf := x_in hc hf
      refine lv_iload hx hb dX9_isMet_12 (lv_at hl 4 rfl) ?_
      refine x_aloadq_n hx hb dX9_isMet_14 rfl (lv_at hl 1 rfl) ?_
      obtain ⟨r3, er3, hf⟩ := x_bd hf
      rw [er3]
      refine gf_10_3 C hR (kv1 r3 er3) tw_770 dX9_isMet_15 ?_
      refine x_alen C hR (kf_10_4 hR (kv1 r3 er3)) dX9_isMet_18 ?_
      refine lv_icmp_ge (tgt := 310) hx hb dX9_isMet_19 rfl (fun hc => ?_) (fun hc => ?_)
      · have hf := x_ip hc hf
        exact B_X9_isMet_310  C   ls _ _ h _  (lv_sub hl [0, 3] rfl) hR hS hf
      · have hf := x_in hc hf
        refine x_aloadq_n hx hb dX9_isMet_22 rfl (lv_at hl 1 rfl) ?_
        obtain ⟨r4, er4, hf⟩ := x_bd hf
        rw [er4]
        refine gf_10_3 C hR (kv1 r4 er4) tw_770 dX9_isMet_23 ?_
        refine lv_iload hx hb dX9_isMet_26 (lv_at hl 4 rfl) ?_
        obtain ⟨g5, hf⟩ := x_gd hf
        refine x_iald C hR (kf_10_4 hR (kv1 r4 er4)) g5 dX9_isMet_28 ?_
        obtain ⟨t6, et6, hf⟩ := x_lt hf
        refine x_nmi et6 ?_
        refine lv_istore (lv' := [(6, _), (0, _), (1, _), (3, _), (4, _), (5, _)]) hx hb dX9_isMet_29 hl (Nat.le_of_ble_eq_true rfl) rfl (fun ls hl => ?_)
        refine lv_iload hx hb dX9_isMet_31 (lv_at hl 0 rfl) ?_
        refine lv_sipush (v := 1040) hx hb dX9_isMet_33 rfl ?_
        refine lv_icmp_ge (tgt := 97) hx hb dX9_isMet_36 rfl (fun hc => ?_) (fun hc => ?_)
        · have hf := x_ip hc hf
          refine lv_iload hx hb dX9_isMet_97 (lv_at hl 0 rfl) ?_
          refine lv_sipush (v := 1045) hx hb dX9_isMet_99 rfl ?_
          refine lv_icmp_ne (tgt := 134) hx hb dX9_isMet_102 rfl (fun hc => ?_) (fun hc => ?_)
          · have hf := x_in hc hf
            refine lv_iload hx hb dX9_isMet_134 (lv_at hl 4 rfl) ?_
            refine lv_iconst (v := 2) hx hb dX9_isMet_136 rfl ?_
            refine lv_icmp_lt (tgt := 304) hx hb dX9_isMet_137 rfl (fun hc => ?_) (fun hc => ?_)
            · have hf := x_ip hc hf
              exact B_X9_isMet_304  C ih  ls _ _ h _ _ _ _ kv1 (lv_sub hl [1, 2, 3, 4, 5] rfl) hR hS hf
            · have hf := x_in hc hf
              refine lv_iinc (k := 4) (v := _ + (-1)) (lv' := [(4, _), (6, _), (0, _), (1, _), (3, _), (5, _)]) hx hb dX9_isMet_140 hl rfl (x_inc (-1) (-1) rfl _) (Nat.le_of_ble_eq_true rfl) rfl (fun ls hl => ?_)
              refine lv_aload_n hx hb dX9_isMet_143 rfl (lv_at hl 2 rfl) ?_
              refine gf_9_1 C hR (x_k hR 43 rfl) tw_376 dX9_isMet_144 ?_
              refine lv_iload hx hb dX9_isMet_147 (lv_at hl 0 rfl) ?_
              refine lv_iconst (v := 1) hx hb dX9_isMet_149 rfl ?_
              refine lv_isub hx hb dX9_isMet_150 ?_
              obtain ⟨g7, hf⟩ := x_gd hf
              refine x_iald C hR (x_k1 (x_k hR 45 rfl)) (x_k2 (x_k hR 45 rfl) g7) dX9_isMet_151 ?_
              obtain ⟨t8, et8, hf⟩ := x_lt hf
              refine x_nmi et8 ?_
              refine lv_istore (lv' := [(7, _), (4, _), (6, _), (0, _), (1, _), (3, _), (5, _)]) hx hb dX9_isMet_152 hl (Nat.le_of_ble_eq_true rfl) rfl (fun ls hl => ?_)
              refine lv_aload_n hx hb dX9_isMet_154 rfl (lv_at hl 3 rfl) ?_
              refine gf_9_1 C hR (x_k hR 43 rfl) tw_376 dX9_isMet_155 ?_
              refine lv_iload hx hb dX9_isMet_158 (lv_at hl 1 rfl) ?_
              obtain ⟨g9, hf⟩ := x_gd hf
              refine x_iald C hR (x_k1 (x_k hR 45 rfl)) (x_k2 (x_k hR 45 rfl) g9) dX9_isMet_160 ?_
              obtain ⟨t10, et10, hf⟩ := x_lt hf
              refine x_nmi et10 ?_
              refine lv_istore (lv' := [(8, _), (7, _), (4, _), (6, _), (0, _), (1, _), (3, _), (5, _)]) hx hb dX9_isMet_161 hl (Nat.le_of_ble_eq_true rfl) rfl (fun ls hl => ?_)
              refine lv_iload hx hb dX9_isMet_163 (lv_at hl 3 rfl) ?_
              by_cases hc0 : t6 = 1043
              · have hf := x_ip hc0 hf
                refine lv_lookup (tgt := 208) hx hb dX9_isMet_165 (by decide) (by rw [hc0] <;> rfl) rfl ?_
                refine lv_aload_n hx hb dX9_isMet_208 rfl (lv_at hl 4 rfl) ?_
                refine gf_9_1 C hR (x_k hR 43 rfl) tw_376 dX9_isMet_209 ?_
                refine lv_iload hx hb dX9_isMet_212 (lv_at hl 2 rfl) ?_
                refine lv_iconst (v := 1) hx hb dX9_isMet_214 rfl ?_
                refine lv_isub hx hb dX9_isMet_215 ?_
                refine lv_iload hx hb dX9_isMet_216 (lv_at hl 1 rfl) ?_
                refine lv_iload hx hb dX9_isMet_218 (lv_at hl 0 rfl) ?_
                refine lv_iand hx hb dX9_isMet_220 ?_
                obtain ⟨g11, hf⟩ := x_gd hf
                obtain ⟨h12, eh12, hf⟩ := x_lt hf
                refine x_iast C hR hS (x_k1 (x_k hR 45 rfl)) (x_k2 (x_k hR 45 rfl) g11) dX9_isMet_221 (fun H locs hR hS => ?_)
                rw [← eh12] at hR
                refine lv_goto (tgt := 304) hx hb dX9_isMet_222 rfl ?_
                exact B_X9_isMet_304  C ih  ls _ _ h12 _ _ _ _ kv1 (lv_sub hl [4, 5, 6, 2, 7] rfl) hR hS hf
              · have hf := x_in hc0 hf
                by_cases hc1 : t6 = 1044
                · have hf := x_ip hc1 hf
                  refine lv_lookup (tgt := 225) hx hb dX9_isMet_165 (by decide) (by rw [hc1] <;> rfl) rfl ?_
                  refine lv_aload_n hx hb dX9_isMet_225 rfl (lv_at hl 4 rfl) ?_
                  refine gf_9_1 C hR (x_k hR 43 rfl) tw_376 dX9_isMet_226 ?_
                  refine lv_iload hx hb dX9_isMet_229 (lv_at hl 2 rfl) ?_
                  refine lv_iconst (v := 1) hx hb dX9_isMet_231 rfl ?_
                  refine lv_isub hx hb dX9_isMet_232 ?_
                  refine lv_iload hx hb dX9_isMet_233 (lv_at hl 1 rfl) ?_
                  refine lv_iload hx hb dX9_isMet_235 (lv_at hl 0 rfl) ?_
                  refine lv_ior hx hb dX9_isMet_237 ?_
                  obtain ⟨g13, hf⟩ := x_gd hf
                  obtain ⟨h14, eh14, hf⟩ := x_lt hf
                  refine x_iast C hR hS (x_k1 (x_k hR 45 rfl)) (x_k2 (x_k hR 45 rfl) g13) dX9_isMet_238 (fun H locs hR hS => ?_)
                  rw [← eh14] at hR
                  refine lv_goto (tgt := 304) hx hb dX9_isMet_239 rfl ?_
                  exact B_X9_isMet_304  C ih  ls _ _ h14 _ _ _ _ kv1 (lv_sub hl [4, 5, 6, 2, 7] rfl) hR hS hf
                · have hf := x_in hc1 hf
                  by_cases hc2 : t6 = 1143
                  · have hf := x_ip hc2 hf
                    refine lv_lookup (tgt := 242) hx hb dX9_isMet_165 (by decide) (by rw [hc2] <;> rfl) rfl ?_
                    refine lv_aload_n hx hb dX9_isMet_242 rfl (lv_at hl 4 rfl) ?_
                    refine gf_9_1 C hR (x_k hR 43 rfl) tw_376 dX9_isMet_243 ?_
                    refine lv_iload hx hb dX9_isMet_246 (lv_at hl 2 rfl) ?_
                    refine lv_iconst (v := 1) hx hb dX9_isMet_248 rfl ?_
                    refine lv_isub hx hb dX9_isMet_249 ?_
                    refine lv_iload hx hb dX9_isMet_250 (lv_at hl 1 rfl) ?_
                    refine lv_iload hx hb dX9_isMet_252 (lv_at hl 0 rfl) ?_
                    refine lv_iadd hx hb dX9_isMet_254 ?_
                    obtain ⟨g15, hf⟩ := x_gd hf
                    obtain ⟨h16, eh16, hf⟩ := x_lt hf
                    refine x_iast C hR hS (x_k1 (x_k hR 45 rfl)) (x_k2 (x_k hR 45 rfl) g15) dX9_isMet_255 (fun H locs hR hS => ?_)
                    rw [← eh16] at hR
                    refine lv_goto (tgt := 304) hx hb dX9_isMet_256 rfl ?_
                    exact B_X9_isMet_304  C ih  ls _ _ h16 _ _ _ _ kv1 (lv_sub hl [4, 5, 6, 2, 7] rfl) hR hS hf
                  · have hf := x_in hc2 hf
                    by_cases hc3 : t6 = 1160
                    · have hf := x_ip hc3 hf
                      refine lv_lookup (tgt := 259) hx hb dX9_isMet_165 (by decide) (by rw [hc3] <;> rfl) rfl ?_
                      refine lv_aload_n hx hb dX9_isMet_259 rfl (lv_at hl 4 rfl) ?_
                      refine gf_9_1 C hR (x_k hR 43 rfl) tw_376 dX9_isMet_260 ?_
                      refine lv_iload hx hb dX9_isMet_263 (lv_at hl 2 rfl) ?_
                      refine lv_iconst (v := 1) hx hb dX9_isMet_265 rfl ?_
                      refine lv_isub hx hb dX9_isMet_266 ?_
                      refine lv_iload hx hb dX9_isMet_267 (lv_at hl 1 rfl) ?_
                      refine lv_iload hx hb dX9_isMet_269 (lv_at hl 0 rfl) ?_
                      have kM17 : ∀ (ls : Array Slot) (H : Heap) (locs : List Loc), lv_has ls 9 [(0, .ref (oX O + 43)), (1, va_rf v1), (3, .int v3), (4, .int (v4 + (-1))), (5, .int v5)] → x_R O K h H → va_S (oA O) s.heap H locs → W p l e (x_rm 0 0) s m args below meth c H locs 0 0 (MQ below (x_Qc O K h' (some (.int r))) args s 0 0 (oA O)) (F0 m 279 ls [.int (if t10 ≤ t8 then 0 else 1), .int ((v4 + (-1)) - 1), .ref (oX O + 45)]) := by
                        intro ls H locs hl hR hS
                        obtain ⟨g18, hf⟩ := x_gd hf
                        obtain ⟨h19, eh19, hf⟩ := x_lt hf
                        refine x_iast C hR hS (x_k1 (x_k hR 45 rfl)) (x_k2 (x_k hR 45 rfl) g18) dX9_isMet_279 (fun H locs hR hS => ?_)
                        rw [← eh19] at hR
                        refine lv_goto (tgt := 304) hx hb dX9_isMet_280 rfl ?_
                        exact B_X9_isMet_304  C ih  ls _ _ h19 _ _ _ _ kv1 (lv_sub hl [0, 1, 2, 3, 4] rfl) hR hS hf
                      refine lv_icmp_ge (tgt := 278) hx hb dX9_isMet_271 rfl (fun hc => ?_) (fun hc => ?_)
                      · try simp only [if_pos hc] at kM17
                        refine lv_iconst (v := 0) hx hb dX9_isMet_278 rfl ?_
                        exact kM17 ls _ _ (lv_sub hl [4, 5, 6, 2, 7] rfl) hR hS
                      · try simp only [if_neg hc] at kM17
                        refine lv_iconst (v := 1) hx hb dX9_isMet_274 rfl ?_
                        refine lv_goto (tgt := 279) hx hb dX9_isMet_275 rfl ?_
                        exact kM17 ls _ _ (lv_sub hl [4, 5, 6, 2, 7] rfl) hR hS
                    · have hf := x_in hc3 hf
                      refine lv_lookup (tgt := 283) hx hb dX9_isMet_165 (by decide) (x_lk (x_nz hc0 rfl) (x_lk (x_nz hc1 rfl) (x_lk (x_nz hc2 rfl) (x_lk (x_nz hc3 rfl) rfl)))) rfl ?_
                      refine lv_aload_n hx hb dX9_isMet_283 rfl (lv_at hl 4 rfl) ?_
                      refine gf_9_1 C hR (x_k hR 43 rfl) tw_376 dX9_isMet_284 ?_
                      refine lv_iload hx hb dX9_isMet_287 (lv_at hl 2 rfl) ?_
                      refine lv_iconst (v := 1) hx hb dX9_isMet_289 rfl ?_
                      refine lv_isub hx hb dX9_isMet_290 ?_
                      refine lv_iload hx hb dX9_isMet_291 (lv_at hl 1 rfl) ?_
                      refine lv_iload hx hb dX9_isMet_293 (lv_at hl 0 rfl) ?_
                      have kM20 : ∀ (ls : Array Slot) (H : Heap) (locs : List Loc), lv_has ls 9 [(0, .ref (oX O + 43)), (1, va_rf v1), (3, .int v3), (4, .int (v4 + (-1))), (5, .int v5)] → x_R O K h H → va_S (oA O) s.heap H locs → W p l e (x_rm 0 0) s m args below meth c H locs 0 0 (MQ below (x_Qc O K h' (some (.int r))) args s 0 0 (oA O)) (F0 m 303 ls [.int (if t8 ≤ t10 then 0 else 1), .int ((v4 + (-1)) - 1), .ref (oX O + 45)]) := by
                        intro ls H locs hl hR hS
                        obtain ⟨g21, hf⟩ := x_gd hf
                        obtain ⟨h22, eh22, hf⟩ := x_lt hf
                        refine x_iast C hR hS (x_k1 (x_k hR 45 rfl)) (x_k2 (x_k hR 45 rfl) g21) dX9_isMet_303 (fun H locs hR hS => ?_)
                        rw [← eh22] at hR
                        exact B_X9_isMet_304  C ih  ls _ _ h22 _ _ _ _ kv1 (lv_sub hl [0, 1, 2, 3, 4] rfl) hR hS hf
                      refine lv_icmp_le (tgt := 302) hx hb dX9_isMet_295 rfl (fun hc => ?_) (fun hc => ?_)
                      · try simp only [if_pos hc] at kM20
                        refine lv_iconst (v := 0) hx hb dX9_isMet_302 rfl ?_
                        exact kM20 ls _ _ (lv_sub hl [4, 5, 6, 2, 7] rfl) hR hS
                      · try simp only [if_neg hc] at kM20
                        refine lv_iconst (v := 1) hx hb dX9_isMet_298 rfl ?_
                        refine lv_goto (tgt := 303) hx hb dX9_isMet_299 rfl ?_
                        exact kM20 ls _ _ (lv_sub hl [4, 5, 6, 2, 7] rfl) hR hS
          · have hf := x_ip hc hf
            refine lv_iload hx hb dX9_isMet_105 (lv_at hl 4 rfl) ?_
            refine lv_iconst (v := 1) hx hb dX9_isMet_107 rfl ?_
            refine lv_icmp_lt (tgt := 304) hx hb dX9_isMet_108 rfl (fun hc => ?_) (fun hc => ?_)
            · have hf := x_ip hc hf
              exact B_X9_isMet_304  C ih  ls _ _ h _ _ _ _ kv1 (lv_sub hl [1, 2, 3, 4, 5] rfl) hR hS hf
            · have hf := x_in hc hf
              refine lv_aload_n hx hb dX9_isMet_111 rfl (lv_at hl 1 rfl) ?_
              refine gf_9_1 C hR (x_k hR 43 rfl) tw_376 dX9_isMet_112 ?_
              refine lv_iload hx hb dX9_isMet_115 (lv_at hl 4 rfl) ?_
              refine lv_iconst (v := 1) hx hb dX9_isMet_117 rfl ?_
              refine lv_isub hx hb dX9_isMet_118 ?_
              refine lv_iconst (v := 1) hx hb dX9_isMet_119 rfl ?_
              refine lv_aload_n hx hb dX9_isMet_120 rfl (lv_at hl 1 rfl) ?_
              refine gf_9_1 C hR (x_k hR 43 rfl) tw_376 dX9_isMet_121 ?_
              refine lv_iload hx hb dX9_isMet_124 (lv_at hl 4 rfl) ?_
              refine lv_iconst (v := 1) hx hb dX9_isMet_126 rfl ?_
              refine lv_isub hx hb dX9_isMet_127 ?_
              obtain ⟨g23, hf⟩ := x_gd hf
              refine x_iald C hR (x_k1 (x_k hR 45 rfl)) (x_k2 (x_k hR 45 rfl) g23) dX9_isMet_128 ?_
              refine lv_isub hx hb dX9_isMet_129 ?_
              obtain ⟨g24, hf⟩ := x_gd hf
              obtain ⟨h25, eh25, hf⟩ := x_lt hf
              refine x_iast C hR hS (x_k1 (x_k hR 45 rfl)) (x_k2 (x_k hR 45 rfl) g24) dX9_isMet_130 (fun H locs hR hS => ?_)
              rw [← eh25] at hR
              refine lv_goto (tgt := 304) hx hb dX9_isMet_131 rfl ?_
              exact B_X9_isMet_304  C ih  ls _ _ h25 _ _ _ _ kv1 (lv_sub hl [1, 2, 3, 4, 5] rfl) hR hS hf
        · have hf := x_in hc hf
          refine lv_iload hx hb dX9_isMet_39 (lv_at hl 4 rfl) ?_
          refine lv_aload_n hx hb dX9_isMet_41 rfl (lv_at hl 1 rfl) ?_
          refine gf_9_1 C hR (x_k hR 43 rfl) tw_376 dX9_isMet_42 ?_
          refine x_alenc (v := 20) C hR (x_k hR 45 rfl) rfl dX9_isMet_45 ?_
          refine lv_icmp_ge (tgt := 304) hx hb dX9_isMet_46 rfl (fun hc => ?_) (fun hc => ?_)
          · have hf := x_ip hc hf
            exact B_X9_isMet_304  C ih  ls _ _ h _ _ _ _ kv1 (lv_sub hl [1, 2, 3, 4, 5] rfl) hR hS hf
          · have hf := x_in hc hf
            refine lv_iload hx hb dX9_isMet_49 (lv_at hl 0 rfl) ?_
            refine lv_sipush (v := 1000) hx hb dX9_isMet_51 rfl ?_
            refine lv_isub hx hb dX9_isMet_54 ?_
            refine lv_istore (lv' := [(7, _), (6, _), (0, _), (1, _), (3, _), (4, _), (5, _)]) hx hb dX9_isMet_55 hl (Nat.le_of_ble_eq_true rfl) rfl (fun ls hl => ?_)
            refine lv_aload_n hx hb dX9_isMet_57 rfl (lv_at hl 2 rfl) ?_
            refine gf_9_1 C hR (x_k hR 43 rfl) tw_376 dX9_isMet_58 ?_
            refine lv_iload hx hb dX9_isMet_61 (lv_at hl 5 rfl) ?_
            refine lv_iload hx hb dX9_isMet_63 (lv_at hl 0 rfl) ?_
            refine lv_if_lt (tgt := 78) hx hb dX9_isMet_65 rfl (fun hc => ?_) (fun hc => ?_)
            · have hf := x_ip hc hf
              exact B_X9_isMet_78  C ih  ls _ _ h _ _ _ _ _ _ kv1 (lv_sub hl [2, 3, 4, 5, 6, 1] rfl) hR hS hf
            · have hf := x_in hc hf
              refine lv_iload hx hb dX9_isMet_68 (lv_at hl 0 rfl) ?_
              refine lv_aload_n hx hb dX9_isMet_70 rfl (lv_at hl 2 rfl) ?_
              refine gf_9_0 C hR (x_k hR 43 rfl) tw_374 dX9_isMet_71 ?_
              refine x_alenc (v := 10) C hR (x_k hR 44 rfl) rfl dX9_isMet_74 ?_
              refine lv_icmp_lt (tgt := 83) hx hb dX9_isMet_75 rfl (fun hc => ?_) (fun hc => ?_)
              · have hf := x_ip hc hf
                refine lv_aload_n hx hb dX9_isMet_83 rfl (lv_at hl 2 rfl) ?_
                refine gf_9_0 C hR (x_k hR 43 rfl) tw_374 dX9_isMet_84 ?_
                refine lv_iload hx hb dX9_isMet_87 (lv_at hl 0 rfl) ?_
                obtain ⟨g28, hf⟩ := x_gd hf
                refine x_iald C hR (x_k1 (x_k hR 44 rfl)) (x_k2 (x_k hR 44 rfl) g28) dX9_isMet_89 ?_
                exact B_X9_isMet_90  C ih  ls _ _ h _ _ _ _ _ _ kv1 (lv_sub hl [2, 3, 4, 5, 6] rfl) hR hS hf
              · have hf := x_in hc hf
                exact B_X9_isMet_78  C ih  ls _ _ h _ _ _ _ _ _ kv1 (lv_sub hl [2, 3, 4, 5, 6, 1] rfl) hR hS hf
set_option maxRecDepth 20000 in
theorem S_X9_isMet {l : Launch} {O : XO} {K : XK} {h : XH} {v1 : Option Nat} {v2 : Int32} {v3 : Int32}  {r : Int32} {h' : XH} (k1 : ∀ r, v1 = some r → K r = (11, 0)) (hf : f_X9_isMet K (oX O) h v1 v2 v3 = some (r, h')) : x_M l O K yX9_isMet cX9_isMet 9 (some .boolean) 0 0 h [.ref (oX O + 43), va_rf v1, .int v2, .int v3] (some (.int r)) h' := by
  refine x_enter (by decide) (by cases v1 <;> exact Nat.le_of_ble_eq_true rfl) (fun p e s m args below meth c C hR ls hl => ?_)
  have hS : va_S (oA O) s.heap s.heap [] := va_S.rf
  have hx := C.1
  have hb := C.2.1
  have hl : lv_has ls 9 [(0, .ref (oX O + 43)), (1, va_rf v1), (2, .int v2), (3, .int v3)] := by cases v1 <;> exact hl
  rw [f_X9_isMet] at hf
  refine lv_iconst (v := 0) hx hb dX9_isMet_0 rfl ?_
  refine lv_istore (lv' := [(4, _), (0, _), (1, _), (2, _), (3, _)]) hx hb dX9_isMet_1 hl (Nat.le_of_ble_eq_true rfl) rfl (fun ls hl => ?_)
  refine lv_iload_n hx hb dX9_isMet_3 rfl (lv_at hl 3 rfl) ?_
  refine lv_istore (lv' := [(5, _), (4, _), (0, _), (1, _), (2, _), (3, _)]) hx hb dX9_isMet_4 hl (Nat.le_of_ble_eq_true rfl) rfl (fun ls hl => ?_)
  exact B_X9_isMet_6  C  x_FU ls _ _ h _ _ _ _ k1 (lv_sub hl [2, 3, 5, 1, 0] rfl) hR hS hf
def f_X12_thrown (x : Nat) (h : XH) : Int32 := (h.1 (x + 64) 0)
set_option maxRecDepth 20000 in
theorem S_X12_thrown {l : Launch} {O : XO} {K : XK} {h : XH}  {r : Int32}  (hf : f_X12_thrown (oX O) h = r) : x_M l O K yX12_thrown cX12_thrown 1 (some .int) 0 0 h [.ref (oX O + 64)] (some (.int r)) h := by
  refine x_enter (by decide) (Nat.le_of_ble_eq_true rfl) (fun p e s m args below meth c C hR ls hl => ?_)
  have hS : va_S (oA O) s.heap s.heap [] := va_S.rf
  have hx := C.1
  have hb := C.2.1
  have hl : lv_has ls 1 [(0, .ref (oX O + 64))] := hl
  rw [f_X12_thrown] at hf
  refine lv_aload_n hx hb dX12_thrown_0 rfl (lv_at hl 0 rfl) ?_
  refine gf_12_0 C hR (x_k hR 64 rfl) tw_1543 dX12_thrown_1 ?_
  cases hf
  exact x_iret C hR hS dX12_thrown_4
def f_X12_throwsIf_9 (x : Nat) (h : XH) (v1 : Int32) : Option (Int32 × XH) := if x_isb v1 = true then some (v1, h) else none
def f_X12_throwsIf (x : Nat) (h : XH) (v1 : Int32) (v2 : Int32) : Option (Int32 × XH) := if v1 = 0 then f_X12_throwsIf_9 x h v1 else x_let (x_i h (x + 64) 0 v2) (fun h2 => f_X12_throwsIf_9 x h2 v1)
set_option maxRecDepth 20000 in
theorem B_X12_throwsIf_9 {p : Program} {l : Launch} {e : Env} {s : State} {m : MethodId} {args : Array Value} {below : List Frame} {meth : Method} {c : Code} {O : XO} {K : XK} {r : Int32} {h' : XH}   (C : x_C p s m args meth c O cX12_throwsIf 3 RX12 (some .boolean))   (ls : Array Slot) (H : Heap) (locs : List Loc) (h : XH) (v1 : Int32) (hl : lv_has ls 3 [(1, .int v1)]) (hR : x_R O K h H) (hS : va_S (oA O) s.heap H locs) (hf : f_X12_throwsIf_9 (oX O) h v1 = some (r, h')) : W p l e (x_rm 0 0) s m args below meth c H locs 0 0 (MQ below (x_Qc O K h' (some (.int r))) args s 0 0 (oA O)) (F0 m 9 ls []) := by
  have hx := C.1
  have hb := C.2.1
  rw [f_X12_throwsIf_9] at hf
  refine lv_iload_n hx hb dX12_throwsIf_9 rfl (lv_at hl 0 rfl) ?_
  obtain ⟨g1, hf⟩ := x_gd hf
  cases hf
  exact x_zret C hR hS (x_isb_of g1) dX12_throwsIf_10
set_option maxRecDepth 20000 in
theorem S_X12_throwsIf {l : Launch} {O : XO} {K : XK} {h : XH} {v1 : Int32} {v2 : Int32}  {r : Int32} {h' : XH}  (hf : f_X12_throwsIf (oX O) h v1 v2 = some (r, h')) : x_M l O K yX12_throwsIf cX12_throwsIf 3 (some .boolean) 0 0 h [.ref (oX O + 64), .int v1, .int v2] (some (.int r)) h' := by
  refine x_enter (by decide) (Nat.le_of_ble_eq_true rfl) (fun p e s m args below meth c C hR ls hl => ?_)
  have hS : va_S (oA O) s.heap s.heap [] := va_S.rf
  have hx := C.1
  have hb := C.2.1
  have hl : lv_has ls 3 [(0, .ref (oX O + 64)), (1, .int v1), (2, .int v2)] := hl
  rw [f_X12_throwsIf] at hf
  refine lv_iload_n hx hb dX12_throwsIf_0 rfl (lv_at hl 1 rfl) ?_
  refine lv_if_eq (tgt := 9) hx hb dX12_throwsIf_1 rfl (fun hc => ?_) (fun hc => ?_)
  · have hf := x_ip hc hf
    exact B_X12_throwsIf_9  C   ls _ _ h _  (lv_sub hl [1] rfl) hR hS hf
  · have hf := x_in hc hf
    refine lv_aload_n hx hb dX12_throwsIf_4 rfl (lv_at hl 0 rfl) ?_
    refine lv_iload_n hx hb dX12_throwsIf_5 rfl (lv_at hl 2 rfl) ?_
    obtain ⟨h2, eh2, hf⟩ := x_lt hf
    refine pf_12_0 C hR hS (x_k hR 64 rfl) tw_1543 dX12_throwsIf_6 (fun H locs hR hS => ?_)
    rw [← eh2] at hR
    exact B_X12_throwsIf_9  C   ls _ _ h2 _  (lv_sub hl [1] rfl) hR hS hf
def f_X12_in (h : XH) (v0 : Int32) (v1 : Int32) (v2 : Int32) : Int32 := (if v0 < v1 then 0 else (if v2 < v0 then 0 else 1))
set_option maxRecDepth 20000 in
theorem S_X12_in {l : Launch} {O : XO} {K : XK} {h : XH} {v0 : Int32} {v1 : Int32} {v2 : Int32}  {r : Int32}  (hf : f_X12_in h v0 v1 v2 = r) : x_M l O K yX12_in cX12_in 3 (some .boolean) 0 0 h [.int v0, .int v1, .int v2] (some (.int r)) h := by
  refine x_enter (by decide) (Nat.le_of_ble_eq_true rfl) (fun p e s m args below meth c C hR ls hl => ?_)
  have hS : va_S (oA O) s.heap s.heap [] := va_S.rf
  have hx := C.1
  have hb := C.2.1
  have hl : lv_has ls 3 [(0, .int v0), (1, .int v1), (2, .int v2)] := hl
  rw [f_X12_in] at hf
  refine lv_iload_n hx hb dX12_in_0 rfl (lv_at hl 0 rfl) ?_
  refine lv_iload_n hx hb dX12_in_1 rfl (lv_at hl 1 rfl) ?_
  have kM1 : ∀ (ls : Array Slot) (H : Heap) (locs : List Loc), lv_has ls 3 [] → x_R O K h H → va_S (oA O) s.heap H locs → W p l e (x_rm 0 0) s m args below meth c H locs 0 0 (MQ below (x_Qc O K h (some (.int r))) args s 0 0 (oA O)) (F0 m 15 ls [.int (if v0 < v1 then 0 else (if v2 < v0 then 0 else 1))]) := by
    intro ls H locs hl hR hS
    cases hf
    exact x_zret C hR hS (by (repeat' split) <;> first | exact Or.inl rfl | exact Or.inr rfl) dX12_in_15
  refine lv_icmp_lt (tgt := 14) hx hb dX12_in_2 rfl (fun hc => ?_) (fun hc => ?_)
  · try simp only [if_pos hc] at kM1
    refine lv_iconst (v := 0) hx hb dX12_in_14 rfl ?_
    exact kM1 ls _ _ (lv_sub hl [] rfl) hR hS
  · try simp only [if_neg hc] at kM1
    refine lv_iload_n hx hb dX12_in_5 rfl (lv_at hl 0 rfl) ?_
    refine lv_iload_n hx hb dX12_in_6 rfl (lv_at hl 2 rfl) ?_
    refine lv_icmp_gt (tgt := 14) hx hb dX12_in_7 rfl (fun hc => ?_) (fun hc => ?_)
    · try simp only [if_pos hc] at kM1
      refine lv_iconst (v := 0) hx hb dX12_in_14 rfl ?_
      exact kM1 ls _ _ (lv_sub hl [] rfl) hR hS
    · try simp only [if_neg hc] at kM1
      refine lv_iconst (v := 1) hx hb dX12_in_10 rfl ?_
      refine lv_goto (tgt := 15) hx hb dX12_in_11 rfl ?_
      exact kM1 ls _ _ (lv_sub hl [] rfl) hR hS
def f_X12_image_7 (x : Nat) : Nat → XH → Int32 → Option (XH)
  | 0, _, _ => none
  | n + 1, h, v1 => if 6076 ≤ v1 then x_let (x_i h (x + 64) 3 1) (fun h2 => some h2) else if x_b v1 6927 = true then if x_b v1 6076 = true then x_let (x_i h (x + 66) v1.toNatClampNeg (h.1 (x + 65) v1.toNatClampNeg)) (fun h5 => f_X12_image_7 x n h5 (v1 + 1)) else none else none
def f_X12_image (x : Nat) (h : XH) : Option (XH) := x_let (x_i h (x + 64) 0 0) (fun h1 => f_X12_image_7 x x_FU h1 0)
set_option maxRecDepth 20000 in
theorem B_X12_image_7 {p : Program} {l : Launch} {e : Env} {s : State} {m : MethodId} {args : Array Value} {below : List Frame} {meth : Method} {c : Code} {O : XO} {K : XK} {h' : XH}   (C : x_C p s m args meth c O cX12_image 2 RX12 none)   : ∀ (n : Nat) (ls : Array Slot) (H : Heap) (locs : List Loc) (h : XH) (v1 : Int32) (hl : lv_has ls 2 [(0, .ref (oX O + 64)), (1, .int v1)]) (hR : x_R O K h H) (hS : va_S (oA O) s.heap H locs) (hf : f_X12_image_7 (oX O) n h v1 = some h'), W p l e (x_rm 0 0) s m args below meth c H locs 0 0 (MQ below (x_Qc O K h' none) args s 0 0 (oA O)) (F0 m 7 ls []) := by
  have hx := C.1
  have hb := C.2.1
  intro n
  induction n with
  | zero =>
    intro ls H locs h v1 hl hR hS hf
    rw [f_X12_image_7] at hf
    cases hf
  | succ n ih =>
    intro ls H locs h v1 hl hR hS hf
    rw [f_X12_image_7] at hf
    refine lv_iload_n hx hb dX12_image_7 rfl (lv_at hl 1 rfl) ?_
    refine lv_sipush (v := 6076) hx hb dX12_image_8 rfl ?_
    refine lv_icmp_ge (tgt := 32) hx hb dX12_image_11 rfl (fun hc => ?_) (fun hc => ?_)
    · have hf := x_ip hc hf
      refine lv_aload_n hx hb dX12_image_32 rfl (lv_at hl 0 rfl) ?_
      refine lv_iconst (v := 1) hx hb dX12_image_33 rfl ?_
      obtain ⟨h2, eh2, hf⟩ := x_lt hf
      refine pf_12_3 C hR hS (Or.inr rfl) (x_k hR 64 rfl) tw_1546 dX12_image_34 (fun H locs hR hS => ?_)
      rw [← eh2] at hR
      cases hf
      exact x_vret C hR hS dX12_image_37
    · have hf := x_in hc hf
      refine lv_aload_n hx hb dX12_image_14 rfl (lv_at hl 0 rfl) ?_
      refine gf_12_2 C hR (x_k hR 64 rfl) tw_1545 dX12_image_15 ?_
      refine lv_iload_n hx hb dX12_image_18 rfl (lv_at hl 1 rfl) ?_
      refine lv_aload_n hx hb dX12_image_19 rfl (lv_at hl 0 rfl) ?_
      refine gf_12_1 C hR (x_k hR 64 rfl) tw_1544 dX12_image_20 ?_
      refine lv_iload_n hx hb dX12_image_23 rfl (lv_at hl 1 rfl) ?_
      obtain ⟨g3, hf⟩ := x_gd hf
      refine x_iald C hR (x_k1 (x_k hR 65 rfl)) (x_k2 (x_k hR 65 rfl) g3) dX12_image_24 ?_
      obtain ⟨g4, hf⟩ := x_gd hf
      obtain ⟨h5, eh5, hf⟩ := x_lt hf
      refine x_iast C hR hS (x_k1 (x_k hR 66 rfl)) (x_k2 (x_k hR 66 rfl) g4) dX12_image_25 (fun H locs hR hS => ?_)
      rw [← eh5] at hR
      refine lv_iinc (k := 1) (v := _ + 1) (lv' := [(1, _), (0, _)]) hx hb dX12_image_26 hl rfl (x_inc 1 1 rfl _) (Nat.le_of_ble_eq_true rfl) rfl (fun ls hl => ?_)
      refine lv_goto (tgt := 7) hx hb dX12_image_29 rfl ?_
      exact ih ls _ _ h5 _  (lv_sub hl [1, 0] rfl) hR hS hf
set_option maxRecDepth 20000 in
theorem S_X12_image {l : Launch} {O : XO} {K : XK} {h : XH}  {h' : XH}  (hf : f_X12_image (oX O) h = some h') : x_M l O K yX12_image cX12_image 2 none 0 0 h [.ref (oX O + 64)] none h' := by
  refine x_enter (by decide) (Nat.le_of_ble_eq_true rfl) (fun p e s m args below meth c C hR ls hl => ?_)
  have hS : va_S (oA O) s.heap s.heap [] := va_S.rf
  have hx := C.1
  have hb := C.2.1
  have hl : lv_has ls 2 [(0, .ref (oX O + 64))] := hl
  rw [f_X12_image] at hf
  refine lv_aload_n hx hb dX12_image_0 rfl (lv_at hl 0 rfl) ?_
  refine lv_iconst (v := 0) hx hb dX12_image_1 rfl ?_
  obtain ⟨h1, eh1, hf⟩ := x_lt hf
  refine pf_12_0 C hR hS (x_k hR 64 rfl) tw_1543 dX12_image_2 (fun H locs hR hS => ?_)
  rw [← eh1] at hR
  refine lv_iconst (v := 0) hx hb dX12_image_5 rfl ?_
  refine lv_istore_n (lv' := [(1, _), (0, _)]) hx hb dX12_image_6 rfl hl (Nat.le_of_ble_eq_true rfl) rfl (fun ls hl => ?_)
  exact B_X12_image_7  C  x_FU ls _ _ h1 _  (lv_sub hl [1, 0] rfl) hR hS hf
def f_X12_back_16 (x : Nat) : Nat → XH → Int32 → Option (Int32 × XH)
  | 0, _, _ => none
  | n + 1, h, v1 => if 6076 ≤ v1 then some (1, h) else if x_b v1 6076 = true then if x_b v1 6927 = true then x_let (x_i h (x + 65) v1.toNatClampNeg (h.1 (x + 66) v1.toNatClampNeg)) (fun h4 => f_X12_back_16 x n h4 (v1 + 1)) else none else none
def f_X12_back (x : Nat) (h : XH) : Option (Int32 × XH) := x_let (x_i h (x + 64) 0 0) (fun h1 => if (h1.1 (x + 64) 3) = 0 then some (0, h1) else f_X12_back_16 x x_FU h1 0)
set_option maxRecDepth 20000 in
theorem B_X12_back_16 {p : Program} {l : Launch} {e : Env} {s : State} {m : MethodId} {args : Array Value} {below : List Frame} {meth : Method} {c : Code} {O : XO} {K : XK} {r : Int32} {h' : XH}   (C : x_C p s m args meth c O cX12_back 2 RX12 (some .boolean))   : ∀ (n : Nat) (ls : Array Slot) (H : Heap) (locs : List Loc) (h : XH) (v1 : Int32) (hl : lv_has ls 2 [(0, .ref (oX O + 64)), (1, .int v1)]) (hR : x_R O K h H) (hS : va_S (oA O) s.heap H locs) (hf : f_X12_back_16 (oX O) n h v1 = some (r, h')), W p l e (x_rm 0 0) s m args below meth c H locs 0 0 (MQ below (x_Qc O K h' (some (.int r))) args s 0 0 (oA O)) (F0 m 16 ls []) := by
  have hx := C.1
  have hb := C.2.1
  intro n
  induction n with
  | zero =>
    intro ls H locs h v1 hl hR hS hf
    rw [f_X12_back_16] at hf
    cases hf
  | succ n ih =>
    intro ls H locs h v1 hl hR hS hf
    rw [f_X12_back_16] at hf
    refine lv_iload_n hx hb dX12_back_16 rfl (lv_at hl 1 rfl) ?_
    refine lv_sipush (v := 6076) hx hb dX12_back_17 rfl ?_
    refine lv_icmp_ge (tgt := 41) hx hb dX12_back_20 rfl (fun hc => ?_) (fun hc => ?_)
    · have hf := x_ip hc hf
      refine lv_iconst (v := 1) hx hb dX12_back_41 rfl ?_
      cases hf
      exact x_zret C hR hS (Or.inr rfl) dX12_back_42
    · have hf := x_in hc hf
      refine lv_aload_n hx hb dX12_back_23 rfl (lv_at hl 0 rfl) ?_
      refine gf_12_1 C hR (x_k hR 64 rfl) tw_1544 dX12_back_24 ?_
      refine lv_iload_n hx hb dX12_back_27 rfl (lv_at hl 1 rfl) ?_
      refine lv_aload_n hx hb dX12_back_28 rfl (lv_at hl 0 rfl) ?_
      refine gf_12_2 C hR (x_k hR 64 rfl) tw_1545 dX12_back_29 ?_
      refine lv_iload_n hx hb dX12_back_32 rfl (lv_at hl 1 rfl) ?_
      obtain ⟨g2, hf⟩ := x_gd hf
      refine x_iald C hR (x_k1 (x_k hR 66 rfl)) (x_k2 (x_k hR 66 rfl) g2) dX12_back_33 ?_
      obtain ⟨g3, hf⟩ := x_gd hf
      obtain ⟨h4, eh4, hf⟩ := x_lt hf
      refine x_iast C hR hS (x_k1 (x_k hR 65 rfl)) (x_k2 (x_k hR 65 rfl) g3) dX12_back_34 (fun H locs hR hS => ?_)
      rw [← eh4] at hR
      refine lv_iinc (k := 1) (v := _ + 1) (lv' := [(1, _), (0, _)]) hx hb dX12_back_35 hl rfl (x_inc 1 1 rfl _) (Nat.le_of_ble_eq_true rfl) rfl (fun ls hl => ?_)
      refine lv_goto (tgt := 16) hx hb dX12_back_38 rfl ?_
      exact ih ls _ _ h4 _  (lv_sub hl [1, 0] rfl) hR hS hf
set_option maxRecDepth 20000 in
theorem S_X12_back {l : Launch} {O : XO} {K : XK} {h : XH}  {r : Int32} {h' : XH}  (hf : f_X12_back (oX O) h = some (r, h')) : x_M l O K yX12_back cX12_back 2 (some .boolean) 0 0 h [.ref (oX O + 64)] (some (.int r)) h' := by
  refine x_enter (by decide) (Nat.le_of_ble_eq_true rfl) (fun p e s m args below meth c C hR ls hl => ?_)
  have hS : va_S (oA O) s.heap s.heap [] := va_S.rf
  have hx := C.1
  have hb := C.2.1
  have hl : lv_has ls 2 [(0, .ref (oX O + 64))] := hl
  rw [f_X12_back] at hf
  refine lv_aload_n hx hb dX12_back_0 rfl (lv_at hl 0 rfl) ?_
  refine lv_iconst (v := 0) hx hb dX12_back_1 rfl ?_
  obtain ⟨h1, eh1, hf⟩ := x_lt hf
  refine pf_12_0 C hR hS (x_k hR 64 rfl) tw_1543 dX12_back_2 (fun H locs hR hS => ?_)
  rw [← eh1] at hR
  refine lv_aload_n hx hb dX12_back_5 rfl (lv_at hl 0 rfl) ?_
  refine gf_12_3 C hR (x_k hR 64 rfl) tw_1546 dX12_back_6 ?_
  refine lv_if_ne (tgt := 14) hx hb dX12_back_9 rfl (fun hc => ?_) (fun hc => ?_)
  · have hf := x_in hc hf
    refine lv_iconst (v := 0) hx hb dX12_back_14 rfl ?_
    refine lv_istore_n (lv' := [(1, _), (0, _)]) hx hb dX12_back_15 rfl hl (Nat.le_of_ble_eq_true rfl) rfl (fun ls hl => ?_)
    exact B_X12_back_16  C  x_FU ls _ _ h1 _  (lv_sub hl [1, 0] rfl) hR hS hf
  · have hf := x_ip hc hf
    refine lv_iconst (v := 0) hx hb dX12_back_12 rfl ?_
    cases hf
    exact x_zret C hR hS (Or.inl rfl) dX12_back_13
def f_X12_none (x : Nat) (h : XH) (v1 : Int32) (v2 : Int32) : Option Int32 := if x_b v2 6927 = true then some (if (f_X12_in h v1 0 ((h.1 (x + 65) v2.toNatClampNeg) - 1)) = 0 then 1 else 0) else none
set_option maxRecDepth 20000 in
theorem S_X12_none {l : Launch} {O : XO} {K : XK} {h : XH} {v1 : Int32} {v2 : Int32}  {r : Int32}  (hf : f_X12_none (oX O) h v1 v2 = some r) : x_M l O K yX12_none cX12_none 3 (some .boolean) 1 22 h [.ref (oX O + 64), .int v1, .int v2] (some (.int r)) h := by
  refine x_enter (by decide) (Nat.le_of_ble_eq_true rfl) (fun p e s m args below meth c C hR ls hl => ?_)
  have hS : va_S (oA O) s.heap s.heap [] := va_S.rf
  have hx := C.1
  have hb := C.2.1
  have hl : lv_has ls 3 [(0, .ref (oX O + 64)), (1, .int v1), (2, .int v2)] := hl
  rw [f_X12_none] at hf
  refine lv_iload_n hx hb dX12_none_0 rfl (lv_at hl 1 rfl) ?_
  refine lv_iconst (v := 0) hx hb dX12_none_1 rfl ?_
  refine lv_aload_n hx hb dX12_none_2 rfl (lv_at hl 0 rfl) ?_
  refine gf_12_1 C hR (x_k hR 64 rfl) tw_1544 dX12_none_3 ?_
  refine lv_iload_n hx hb dX12_none_6 rfl (lv_at hl 2 rfl) ?_
  obtain ⟨g1, hf⟩ := x_gd hf
  refine x_iald C hR (x_k1 (x_k hR 65 rfl)) (x_k2 (x_k hR 65 rfl) g1) dX12_none_7 ?_
  refine lv_iconst (v := 1) hx hb dX12_none_8 rfl ?_
  refine lv_isub hx hb dX12_none_9 ?_
  refine x_cSi3 C hR hS (S_X12_in  rfl) mf_X12_in tw_1756 (Nat.le_of_ble_eq_true rfl) (Nat.le_of_ble_eq_true rfl) hl.1 (Nat.le_of_ble_eq_true rfl) dX12_none_10 ⟨Nat.le_refl _, Nat.le_refl _⟩ (fun H locs hR hS => ?_)
  have kM2 : ∀ (ls : Array Slot) (H : Heap) (locs : List Loc), lv_has ls 3 [] → x_R O K h H → va_S (oA O) s.heap H locs → W p l e (x_rm 1 22) s m args below meth c H locs 0 0 (MQ below (x_Qc O K h (some (.int r))) args s 0 0 (oA O)) (F0 m 21 ls [.int (if (f_X12_in h v1 0 ((h.1 (oX O + 65) v2.toNatClampNeg) - 1)) = 0 then 1 else 0)]) := by
    intro ls H locs hl hR hS
    cases hf
    exact x_zret C hR hS (by (repeat' split) <;> first | exact Or.inl rfl | exact Or.inr rfl) dX12_none_21
  refine lv_if_ne (tgt := 20) hx hb dX12_none_13 rfl (fun hc => ?_) (fun hc => ?_)
  · try simp only [if_neg hc] at kM2
    refine lv_iconst (v := 0) hx hb dX12_none_20 rfl ?_
    exact kM2 ls _ _ (lv_sub hl [] rfl) hR hS
  · try simp only [if_pos hc] at kM2
    refine lv_iconst (v := 1) hx hb dX12_none_16 rfl ?_
    refine lv_goto (tgt := 21) hx hb dX12_none_17 rfl ?_
    exact kM2 ls _ _ (lv_sub hl [] rfl) hR hS
def f_X12_noCard (h : XH) (v0 : Int32) : Int32 := (if (f_X12_in h v0 0 51) = 0 then 1 else 0)
set_option maxRecDepth 20000 in
theorem S_X12_noCard {l : Launch} {O : XO} {K : XK} {h : XH} {v0 : Int32}  {r : Int32}  (hf : f_X12_noCard h v0 = r) : x_M l O K yX12_noCard cX12_noCard 1 (some .boolean) 1 22 h [.int v0] (some (.int r)) h := by
  refine x_enter (by decide) (Nat.le_of_ble_eq_true rfl) (fun p e s m args below meth c C hR ls hl => ?_)
  have hS : va_S (oA O) s.heap s.heap [] := va_S.rf
  have hx := C.1
  have hb := C.2.1
  have hl : lv_has ls 1 [(0, .int v0)] := hl
  rw [f_X12_noCard] at hf
  refine lv_iload_n hx hb dX12_noCard_0 rfl (lv_at hl 0 rfl) ?_
  refine lv_iconst (v := 0) hx hb dX12_noCard_1 rfl ?_
  refine lv_bipush (v := 51) hx hb dX12_noCard_2 rfl ?_
  refine x_cSi3 C hR hS (S_X12_in  rfl) mf_X12_in tw_1756 (Nat.le_of_ble_eq_true rfl) (Nat.le_of_ble_eq_true rfl) hl.1 (Nat.le_of_ble_eq_true rfl) dX12_noCard_4 ⟨Nat.le_refl _, Nat.le_refl _⟩ (fun H locs hR hS => ?_)
  have kM1 : ∀ (ls : Array Slot) (H : Heap) (locs : List Loc), lv_has ls 1 [] → x_R O K h H → va_S (oA O) s.heap H locs → W p l e (x_rm 1 22) s m args below meth c H locs 0 0 (MQ below (x_Qc O K h (some (.int r))) args s 0 0 (oA O)) (F0 m 15 ls [.int (if (f_X12_in h v0 0 51) = 0 then 1 else 0)]) := by
    intro ls H locs hl hR hS
    cases hf
    exact x_zret C hR hS (by (repeat' split) <;> first | exact Or.inl rfl | exact Or.inr rfl) dX12_noCard_15
  refine lv_if_ne (tgt := 14) hx hb dX12_noCard_7 rfl (fun hc => ?_) (fun hc => ?_)
  · try simp only [if_neg hc] at kM1
    refine lv_iconst (v := 0) hx hb dX12_noCard_14 rfl ?_
    exact kM1 ls _ _ (lv_sub hl [] rfl) hR hS
  · try simp only [if_pos hc] at kM1
    refine lv_iconst (v := 1) hx hb dX12_noCard_10 rfl ?_
    refine lv_goto (tgt := 15) hx hb dX12_noCard_11 rfl ?_
    exact kM1 ls _ _ (lv_sub hl [] rfl) hR hS
def f_X12_feed_60 (x : Nat) : Nat → XH → Int32 → Option (Int32 × XH)
  | 0, _, _ => none
  | n + 1, h, v6 => if 20 ≤ v6 then x_let (x_i h (x + 64) 5 ((h.1 (x + 64) 5) + 20)) (fun h12 => some ((h12.1 (x + 64) 5), h12)) else if x_b (v6 / 4) 5 = true then if x_b ((h.1 (x + 64) 5) + v6) 400 = true then x_let (x_i h (x + 67) ((h.1 (x + 64) 5) + v6).toNatClampNeg ((x_shr (h.1 (x + 68) (v6 / 4).toNatClampNeg) (24 - (8 * (x_rem v6 4)))).toInt8.toInt32).toInt8.toInt32) (fun h15 => f_X12_feed_60 x n h15 (v6 + 1)) else none else none
def f_X12_feed (x : Nat) (h : XH) (v1 : Int32) (v2 : Int32) (v3 : Int32) (v4 : Int32) (v5 : Int32) : Option (Int32 × XH) := x_let (x_i h (x + 64) 0 0) (fun h1 => if ((h1.1 (x + 64) 5) + 20) ≤ 400 then if x_b 0 5 = true then x_let (x_i h1 (x + 68) (0 : Int32).toNatClampNeg v1) (fun h3 => if x_b 1 5 = true then x_let (x_i h3 (x + 68) (1 : Int32).toNatClampNeg v2) (fun h5 => if x_b 2 5 = true then x_let (x_i h5 (x + 68) (2 : Int32).toNatClampNeg v3) (fun h7 => if x_b 3 5 = true then x_let (x_i h7 (x + 68) (3 : Int32).toNatClampNeg v4) (fun h9 => if x_b 4 5 = true then x_let (x_i h9 (x + 68) (4 : Int32).toNatClampNeg v5) (fun h11 => f_X12_feed_60 x x_FU h11 0) else none) else none) else none) else none) else none else some ((-1), h1))
set_option maxRecDepth 20000 in
theorem B_X12_feed_60 {p : Program} {l : Launch} {e : Env} {s : State} {m : MethodId} {args : Array Value} {below : List Frame} {meth : Method} {c : Code} {O : XO} {K : XK} {r : Int32} {h' : XH}   (C : x_C p s m args meth c O cX12_feed 7 RX12 (some .int))   : ∀ (n : Nat) (ls : Array Slot) (H : Heap) (locs : List Loc) (h : XH) (v6 : Int32) (hl : lv_has ls 7 [(0, .ref (oX O + 64)), (6, .int v6)]) (hR : x_R O K h H) (hS : va_S (oA O) s.heap H locs) (hf : f_X12_feed_60 (oX O) n h v6 = some (r, h')), W p l e (x_rm 0 0) s m args below meth c H locs 0 0 (MQ below (x_Qc O K h' (some (.int r))) args s 0 0 (oA O)) (F0 m 60 ls []) := by
  have hx := C.1
  have hb := C.2.1
  intro n
  induction n with
  | zero =>
    intro ls H locs h v6 hl hR hS hf
    rw [f_X12_feed_60] at hf
    cases hf
  | succ n ih =>
    intro ls H locs h v6 hl hR hS hf
    rw [f_X12_feed_60] at hf
    refine lv_iload hx hb dX12_feed_60 (lv_at hl 1 rfl) ?_
    refine lv_bipush (v := 20) hx hb dX12_feed_62 rfl ?_
    refine lv_icmp_ge (tgt := 106) hx hb dX12_feed_64 rfl (fun hc => ?_) (fun hc => ?_)
    · have hf := x_ip hc hf
      refine lv_aload_n hx hb dX12_feed_106 rfl (lv_at hl 0 rfl) ?_
      refine lv_dup hx hb dX12_feed_107 rfl ?_
      refine gf_12_5 C hR (x_k hR 64 rfl) tw_1548 dX12_feed_108 ?_
      refine lv_bipush (v := 20) hx hb dX12_feed_111 rfl ?_
      refine lv_iadd hx hb dX12_feed_113 ?_
      obtain ⟨h12, eh12, hf⟩ := x_lt hf
      refine pf_12_5 C hR hS (x_k hR 64 rfl) tw_1548 dX12_feed_114 (fun H locs hR hS => ?_)
      rw [← eh12] at hR
      refine lv_aload_n hx hb dX12_feed_117 rfl (lv_at hl 0 rfl) ?_
      refine gf_12_5 C hR (x_k hR 64 rfl) tw_1548 dX12_feed_118 ?_
      cases hf
      exact x_iret C hR hS dX12_feed_121
    · have hf := x_in hc hf
      refine lv_aload_n hx hb dX12_feed_67 rfl (lv_at hl 0 rfl) ?_
      refine gf_12_4 C hR (x_k hR 64 rfl) tw_1547 dX12_feed_68 ?_
      refine lv_aload_n hx hb dX12_feed_71 rfl (lv_at hl 0 rfl) ?_
      refine gf_12_5 C hR (x_k hR 64 rfl) tw_1548 dX12_feed_72 ?_
      refine lv_iload hx hb dX12_feed_75 (lv_at hl 1 rfl) ?_
      refine lv_iadd hx hb dX12_feed_77 ?_
      refine lv_aload_n hx hb dX12_feed_78 rfl (lv_at hl 0 rfl) ?_
      refine gf_12_11 C hR (x_k hR 64 rfl) tw_1554 dX12_feed_79 ?_
      refine lv_iload hx hb dX12_feed_82 (lv_at hl 1 rfl) ?_
      refine lv_iconst (v := 4) hx hb dX12_feed_84 rfl ?_
      refine lv_idiv hx hb dX12_feed_85 (by decide) ?_
      obtain ⟨g13, hf⟩ := x_gd hf
      refine x_iald C hR (x_k1 (x_k hR 68 rfl)) (x_k2 (x_k hR 68 rfl) g13) dX12_feed_86 ?_
      refine lv_bipush (v := 24) hx hb dX12_feed_87 rfl ?_
      refine lv_bipush (v := 8) hx hb dX12_feed_89 rfl ?_
      refine lv_iload hx hb dX12_feed_91 (lv_at hl 1 rfl) ?_
      refine lv_iconst (v := 4) hx hb dX12_feed_93 rfl ?_
      refine lv_irem hx hb dX12_feed_94 (by decide) ?_
      refine lv_imul hx hb dX12_feed_95 ?_
      refine lv_isub hx hb dX12_feed_96 ?_
      refine lv_ishr hx hb dX12_feed_97 ?_
      refine lv_i2b hx hb dX12_feed_98 rfl ?_
      obtain ⟨g14, hf⟩ := x_gd hf
      obtain ⟨h15, eh15, hf⟩ := x_lt hf
      refine x_bast C hR hS (x_k1 (x_k hR 67 rfl)) (x_k2 (x_k hR 67 rfl) g14) dX12_feed_99 (fun H locs hR hS => ?_)
      rw [← eh15] at hR
      refine lv_iinc (k := 1) (v := _ + 1) (lv' := [(6, _), (0, _)]) hx hb dX12_feed_100 hl rfl (x_inc 1 1 rfl _) (Nat.le_of_ble_eq_true rfl) rfl (fun ls hl => ?_)
      refine lv_goto (tgt := 60) hx hb dX12_feed_103 rfl ?_
      exact ih ls _ _ h15 _  (lv_sub hl [1, 0] rfl) hR hS hf
set_option maxRecDepth 20000 in
theorem S_X12_feed {l : Launch} {O : XO} {K : XK} {h : XH} {v1 : Int32} {v2 : Int32} {v3 : Int32} {v4 : Int32} {v5 : Int32}  {r : Int32} {h' : XH}  (hf : f_X12_feed (oX O) h v1 v2 v3 v4 v5 = some (r, h')) : x_M l O K yX12_feed cX12_feed 7 (some .int) 0 0 h [.ref (oX O + 64), .int v1, .int v2, .int v3, .int v4, .int v5] (some (.int r)) h' := by
  refine x_enter (by decide) (Nat.le_of_ble_eq_true rfl) (fun p e s m args below meth c C hR ls hl => ?_)
  have hS : va_S (oA O) s.heap s.heap [] := va_S.rf
  have hx := C.1
  have hb := C.2.1
  have hl : lv_has ls 7 [(0, .ref (oX O + 64)), (1, .int v1), (2, .int v2), (3, .int v3), (4, .int v4), (5, .int v5)] := hl
  rw [f_X12_feed] at hf
  refine lv_aload_n hx hb dX12_feed_0 rfl (lv_at hl 0 rfl) ?_
  refine lv_iconst (v := 0) hx hb dX12_feed_1 rfl ?_
  obtain ⟨h1, eh1, hf⟩ := x_lt hf
  refine pf_12_0 C hR hS (x_k hR 64 rfl) tw_1543 dX12_feed_2 (fun H locs hR hS => ?_)
  rw [← eh1] at hR
  refine lv_aload_n hx hb dX12_feed_5 rfl (lv_at hl 0 rfl) ?_
  refine gf_12_5 C hR (x_k hR 64 rfl) tw_1548 dX12_feed_6 ?_
  refine lv_bipush (v := 20) hx hb dX12_feed_9 rfl ?_
  refine lv_iadd hx hb dX12_feed_11 ?_
  refine lv_sipush (v := 400) hx hb dX12_feed_12 rfl ?_
  refine lv_icmp_le (tgt := 20) hx hb dX12_feed_15 rfl (fun hc => ?_) (fun hc => ?_)
  · have hf := x_ip hc hf
    refine lv_aload_n hx hb dX12_feed_20 rfl (lv_at hl 0 rfl) ?_
    refine gf_12_11 C hR (x_k hR 64 rfl) tw_1554 dX12_feed_21 ?_
    refine lv_iconst (v := 0) hx hb dX12_feed_24 rfl ?_
    refine lv_iload_n hx hb dX12_feed_25 rfl (lv_at hl 1 rfl) ?_
    obtain ⟨g2, hf⟩ := x_gd hf
    obtain ⟨h3, eh3, hf⟩ := x_lt hf
    refine x_iast C hR hS (x_k1 (x_k hR 68 rfl)) (x_k2 (x_k hR 68 rfl) g2) dX12_feed_26 (fun H locs hR hS => ?_)
    rw [← eh3] at hR
    refine lv_aload_n hx hb dX12_feed_27 rfl (lv_at hl 0 rfl) ?_
    refine gf_12_11 C hR (x_k hR 64 rfl) tw_1554 dX12_feed_28 ?_
    refine lv_iconst (v := 1) hx hb dX12_feed_31 rfl ?_
    refine lv_iload_n hx hb dX12_feed_32 rfl (lv_at hl 2 rfl) ?_
    obtain ⟨g4, hf⟩ := x_gd hf
    obtain ⟨h5, eh5, hf⟩ := x_lt hf
    refine x_iast C hR hS (x_k1 (x_k hR 68 rfl)) (x_k2 (x_k hR 68 rfl) g4) dX12_feed_33 (fun H locs hR hS => ?_)
    rw [← eh5] at hR
    refine lv_aload_n hx hb dX12_feed_34 rfl (lv_at hl 0 rfl) ?_
    refine gf_12_11 C hR (x_k hR 64 rfl) tw_1554 dX12_feed_35 ?_
    refine lv_iconst (v := 2) hx hb dX12_feed_38 rfl ?_
    refine lv_iload_n hx hb dX12_feed_39 rfl (lv_at hl 3 rfl) ?_
    obtain ⟨g6, hf⟩ := x_gd hf
    obtain ⟨h7, eh7, hf⟩ := x_lt hf
    refine x_iast C hR hS (x_k1 (x_k hR 68 rfl)) (x_k2 (x_k hR 68 rfl) g6) dX12_feed_40 (fun H locs hR hS => ?_)
    rw [← eh7] at hR
    refine lv_aload_n hx hb dX12_feed_41 rfl (lv_at hl 0 rfl) ?_
    refine gf_12_11 C hR (x_k hR 64 rfl) tw_1554 dX12_feed_42 ?_
    refine lv_iconst (v := 3) hx hb dX12_feed_45 rfl ?_
    refine lv_iload hx hb dX12_feed_46 (lv_at hl 4 rfl) ?_
    obtain ⟨g8, hf⟩ := x_gd hf
    obtain ⟨h9, eh9, hf⟩ := x_lt hf
    refine x_iast C hR hS (x_k1 (x_k hR 68 rfl)) (x_k2 (x_k hR 68 rfl) g8) dX12_feed_48 (fun H locs hR hS => ?_)
    rw [← eh9] at hR
    refine lv_aload_n hx hb dX12_feed_49 rfl (lv_at hl 0 rfl) ?_
    refine gf_12_11 C hR (x_k hR 64 rfl) tw_1554 dX12_feed_50 ?_
    refine lv_iconst (v := 4) hx hb dX12_feed_53 rfl ?_
    refine lv_iload hx hb dX12_feed_54 (lv_at hl 5 rfl) ?_
    obtain ⟨g10, hf⟩ := x_gd hf
    obtain ⟨h11, eh11, hf⟩ := x_lt hf
    refine x_iast C hR hS (x_k1 (x_k hR 68 rfl)) (x_k2 (x_k hR 68 rfl) g10) dX12_feed_56 (fun H locs hR hS => ?_)
    rw [← eh11] at hR
    refine lv_iconst (v := 0) hx hb dX12_feed_57 rfl ?_
    refine lv_istore (lv' := [(6, _), (0, _), (1, _), (2, _), (3, _), (4, _), (5, _)]) hx hb dX12_feed_58 hl (Nat.le_of_ble_eq_true rfl) rfl (fun ls hl => ?_)
    exact B_X12_feed_60  C  x_FU ls _ _ h11 _  (lv_sub hl [1, 0] rfl) hR hS hf
  · have hf := x_in hc hf
    refine lv_iconst (v := (-1)) hx hb dX12_feed_18 rfl ?_
    cases hf
    exact x_iret C hR hS dX12_feed_19
def f_X12_end_17 (x : Nat) (h : XH) : Int32 × XH := (0, h)
def f_X12_end (x : Nat) (h : XH) (v1 : Int32) : Int32 × XH := x_let (x_i h (x + 64) 0 0) (fun h1 => if v1 < 0 then f_X12_end_17 x h1 else if v1 ≤ (h1.1 (x + 64) 5) then x_let (x_i h1 (x + 64) 5 v1) (fun h2 => (1, h2)) else f_X12_end_17 x h1)
set_option maxRecDepth 20000 in
theorem B_X12_end_17 {p : Program} {l : Launch} {e : Env} {s : State} {m : MethodId} {args : Array Value} {below : List Frame} {meth : Method} {c : Code} {O : XO} {K : XK} {r : Int32} {h' : XH}   (C : x_C p s m args meth c O cX12_end 2 RX12 (some .boolean))   (ls : Array Slot) (H : Heap) (locs : List Loc) (h : XH) (hl : lv_has ls 2 []) (hR : x_R O K h H) (hS : va_S (oA O) s.heap H locs) (hf : f_X12_end_17 (oX O) h = (r, h')) : W p l e (x_rm 0 0) s m args below meth c H locs 0 0 (MQ below (x_Qc O K h' (some (.int r))) args s 0 0 (oA O)) (F0 m 17 ls []) := by
  have hx := C.1
  have hb := C.2.1
  rw [f_X12_end_17] at hf
  refine lv_iconst (v := 0) hx hb dX12_end_17 rfl ?_
  cases hf
  exact x_zret C hR hS (Or.inl rfl) dX12_end_18
set_option maxRecDepth 20000 in
theorem S_X12_end {l : Launch} {O : XO} {K : XK} {h : XH} {v1 : Int32}  {r : Int32} {h' : XH}  (hf : f_X12_end (oX O) h v1 = (r, h')) : x_M l O K yX12_end cX12_end 2 (some .boolean) 0 0 h [.ref (oX O + 64), .int v1] (some (.int r)) h' := by
  refine x_enter (by decide) (Nat.le_of_ble_eq_true rfl) (fun p e s m args below meth c C hR ls hl => ?_)
  have hS : va_S (oA O) s.heap s.heap [] := va_S.rf
  have hx := C.1
  have hb := C.2.1
  have hl : lv_has ls 2 [(0, .ref (oX O + 64)), (1, .int v1)] := hl
  rw [f_X12_end] at hf
  refine lv_aload_n hx hb dX12_end_0 rfl (lv_at hl 0 rfl) ?_
  refine lv_iconst (v := 0) hx hb dX12_end_1 rfl ?_
  obtain ⟨h1, eh1, hf⟩ := x_lt hf
  refine pf_12_0 C hR hS (x_k hR 64 rfl) tw_1543 dX12_end_2 (fun H locs hR hS => ?_)
  rw [← eh1] at hR
  refine lv_iload_n hx hb dX12_end_5 rfl (lv_at hl 1 rfl) ?_
  refine lv_if_lt (tgt := 17) hx hb dX12_end_6 rfl (fun hc => ?_) (fun hc => ?_)
  · have hf := x_ip hc hf
    exact B_X12_end_17  C   ls _ _ h1  (lv_sub hl [] rfl) hR hS hf
  · have hf := x_in hc hf
    refine lv_iload_n hx hb dX12_end_9 rfl (lv_at hl 1 rfl) ?_
    refine lv_aload_n hx hb dX12_end_10 rfl (lv_at hl 0 rfl) ?_
    refine gf_12_5 C hR (x_k hR 64 rfl) tw_1548 dX12_end_11 ?_
    refine lv_icmp_le (tgt := 19) hx hb dX12_end_14 rfl (fun hc => ?_) (fun hc => ?_)
    · have hf := x_ip hc hf
      refine lv_aload_n hx hb dX12_end_19 rfl (lv_at hl 0 rfl) ?_
      refine lv_iload_n hx hb dX12_end_20 rfl (lv_at hl 1 rfl) ?_
      obtain ⟨h2, eh2, hf⟩ := x_lt hf
      refine pf_12_5 C hR hS (x_k hR 64 rfl) tw_1548 dX12_end_21 (fun H locs hR hS => ?_)
      rw [← eh2] at hR
      refine lv_iconst (v := 1) hx hb dX12_end_24 rfl ?_
      cases hf
      exact x_zret C hR hS (Or.inr rfl) dX12_end_25
    · have hf := x_in hc hf
      exact B_X12_end_17  C   ls _ _ h1  (lv_sub hl [] rfl) hR hS hf
def f_X12_isAt_41 (x : Nat) (h : XH) : Option Int32 := some 0
def f_X12_isAt (x : Nat) (h : XH) (v1 : Int32) (v2 : Int32) : Option Int32 := if (h.1 (x + 64) 7) ≤ (h.1 (x + 64) 6) then f_X12_isAt_41 x h else if x_b (h.1 (x + 64) 6) 400 = true then if (h.1 (x + 67) (h.1 (x + 64) 6).toNatClampNeg) < v1 then f_X12_isAt_41 x h else if x_b (h.1 (x + 64) 6) 400 = true then some (if v2 < (h.1 (x + 67) (h.1 (x + 64) 6).toNatClampNeg) then 0 else 1) else none else none
set_option maxRecDepth 20000 in
theorem B_X12_isAt_41 {p : Program} {l : Launch} {e : Env} {s : State} {m : MethodId} {args : Array Value} {below : List Frame} {meth : Method} {c : Code} {O : XO} {K : XK} {h : XH} {r : Int32}   (C : x_C p s m args meth c O cX12_isAt 3 RX12 (some .boolean))   (ls : Array Slot) (H : Heap) (locs : List Loc) (hl : lv_has ls 3 []) (hR : x_R O K h H) (hS : va_S (oA O) s.heap H locs) (hf : f_X12_isAt_41 (oX O) h = some r) : W p l e (x_rm 0 0) s m args below meth c H locs 0 0 (MQ below (x_Qc O K h (some (.int r))) args s 0 0 (oA O)) (F0 m 41 ls []) := by
  have hx := C.1
  have hb := C.2.1
  rw [f_X12_isAt_41] at hf
  refine lv_iconst (v := 0) hx hb dX12_isAt_41 rfl ?_
  cases hf
  exact x_zret C hR hS (Or.inl rfl) dX12_isAt_42
set_option maxRecDepth 20000 in
theorem S_X12_isAt {l : Launch} {O : XO} {K : XK} {h : XH} {v1 : Int32} {v2 : Int32}  {r : Int32}  (hf : f_X12_isAt (oX O) h v1 v2 = some r) : x_M l O K yX12_isAt cX12_isAt 3 (some .boolean) 0 0 h [.ref (oX O + 64), .int v1, .int v2] (some (.int r)) h := by
  refine x_enter (by decide) (Nat.le_of_ble_eq_true rfl) (fun p e s m args below meth c C hR ls hl => ?_)
  have hS : va_S (oA O) s.heap s.heap [] := va_S.rf
  have hx := C.1
  have hb := C.2.1
  have hl : lv_has ls 3 [(0, .ref (oX O + 64)), (1, .int v1), (2, .int v2)] := hl
  rw [f_X12_isAt] at hf
  refine lv_aload_n hx hb dX12_isAt_0 rfl (lv_at hl 0 rfl) ?_
  refine gf_12_6 C hR (x_k hR 64 rfl) tw_1549 dX12_isAt_1 ?_
  refine lv_aload_n hx hb dX12_isAt_4 rfl (lv_at hl 0 rfl) ?_
  refine gf_12_7 C hR (x_k hR 64 rfl) tw_1550 dX12_isAt_5 ?_
  refine lv_icmp_ge (tgt := 41) hx hb dX12_isAt_8 rfl (fun hc => ?_) (fun hc => ?_)
  · have hf := x_ip hc hf
    exact B_X12_isAt_41  C   ls _ _   (lv_sub hl [] rfl) hR hS hf
  · have hf := x_in hc hf
    refine lv_aload_n hx hb dX12_isAt_11 rfl (lv_at hl 0 rfl) ?_
    refine gf_12_4 C hR (x_k hR 64 rfl) tw_1547 dX12_isAt_12 ?_
    refine lv_aload_n hx hb dX12_isAt_15 rfl (lv_at hl 0 rfl) ?_
    refine gf_12_6 C hR (x_k hR 64 rfl) tw_1549 dX12_isAt_16 ?_
    obtain ⟨g1, hf⟩ := x_gd hf
    refine x_bald C hR (x_k1 (x_k hR 67 rfl)) (x_k2 (x_k hR 67 rfl) g1) dX12_isAt_19 ?_
    refine lv_iload_n hx hb dX12_isAt_20 rfl (lv_at hl 1 rfl) ?_
    refine lv_icmp_lt (tgt := 41) hx hb dX12_isAt_21 rfl (fun hc => ?_) (fun hc => ?_)
    · have hf := x_ip hc hf
      exact B_X12_isAt_41  C   ls _ _   (lv_sub hl [] rfl) hR hS hf
    · have hf := x_in hc hf
      refine lv_aload_n hx hb dX12_isAt_24 rfl (lv_at hl 0 rfl) ?_
      refine gf_12_4 C hR (x_k hR 64 rfl) tw_1547 dX12_isAt_25 ?_
      refine lv_aload_n hx hb dX12_isAt_28 rfl (lv_at hl 0 rfl) ?_
      refine gf_12_6 C hR (x_k hR 64 rfl) tw_1549 dX12_isAt_29 ?_
      obtain ⟨g2, hf⟩ := x_gd hf
      refine x_bald C hR (x_k1 (x_k hR 67 rfl)) (x_k2 (x_k hR 67 rfl) g2) dX12_isAt_32 ?_
      refine lv_iload_n hx hb dX12_isAt_33 rfl (lv_at hl 2 rfl) ?_
      have kM3 : ∀ (ls : Array Slot) (H : Heap) (locs : List Loc), lv_has ls 3 [] → x_R O K h H → va_S (oA O) s.heap H locs → W p l e (x_rm 0 0) s m args below meth c H locs 0 0 (MQ below (x_Qc O K h (some (.int r))) args s 0 0 (oA O)) (F0 m 42 ls [.int (if v2 < (h.1 (oX O + 67) (h.1 (oX O + 64) 6).toNatClampNeg) then 0 else 1)]) := by
        intro ls H locs hl hR hS
        cases hf
        exact x_zret C hR hS (by (repeat' split) <;> first | exact Or.inl rfl | exact Or.inr rfl) dX12_isAt_42
      refine lv_icmp_gt (tgt := 41) hx hb dX12_isAt_34 rfl (fun hc => ?_) (fun hc => ?_)
      · try simp only [if_pos hc] at kM3
        refine lv_iconst (v := 0) hx hb dX12_isAt_41 rfl ?_
        exact kM3 ls _ _ (lv_sub hl [] rfl) hR hS
      · try simp only [if_neg hc] at kM3
        refine lv_iconst (v := 1) hx hb dX12_isAt_37 rfl ?_
        refine lv_goto (tgt := 42) hx hb dX12_isAt_38 rfl ?_
        exact kM3 ls _ _ (lv_sub hl [] rfl) hR hS
def f_X12_blanks_0 (x : Nat) : Nat → XH → Option (XH)
  | 0, _ => none
  | n + 1, h => Option.bind (f_X12_isAt x h 32 32) (fun v_1 => if v_1 = 0 then x_let (x_i h (x + 64) 8 (h.1 (x + 64) 6)) (fun h2 => some h2) else x_let (x_i h (x + 64) 6 ((h.1 (x + 64) 6) + 1)) (fun h3 => f_X12_blanks_0 x n h3))
def f_X12_blanks (x : Nat) (h : XH) : Option (XH) := f_X12_blanks_0 x x_FU h
set_option maxRecDepth 20000 in
theorem B_X12_blanks_0 {p : Program} {l : Launch} {e : Env} {s : State} {m : MethodId} {args : Array Value} {below : List Frame} {meth : Method} {c : Code} {O : XO} {K : XK} {h' : XH}   (C : x_C p s m args meth c O cX12_blanks 1 RX12 none)   : ∀ (n : Nat) (ls : Array Slot) (H : Heap) (locs : List Loc) (h : XH) (hl : lv_has ls 1 [(0, .ref (oX O + 64))]) (hR : x_R O K h H) (hS : va_S (oA O) s.heap H locs) (hf : f_X12_blanks_0 (oX O) n h = some h'), W p l e (x_rm 1 22) s m args below meth c H locs 0 0 (MQ below (x_Qc O K h' none) args s 0 0 (oA O)) (F0 m 0 ls []) := by
  have hx := C.1
  have hb := C.2.1
  intro n
  induction n with
  | zero =>
    intro ls H locs h hl hR hS hf
    rw [f_X12_blanks_0] at hf
    cases hf
  | succ n ih =>
    intro ls H locs h hl hR hS hf
    rw [f_X12_blanks_0] at hf
    refine lv_aload_n hx hb dX12_blanks_0 rfl (lv_at hl 0 rfl) ?_
    refine lv_bipush (v := 32) hx hb dX12_blanks_1 rfl ?_
    refine lv_bipush (v := 32) hx hb dX12_blanks_3 rfl ?_
    obtain ⟨v_1, ev_1, hf⟩ := x_bd hf
    refine x_cVi2 C hR hS (S_X12_isAt  ev_1) (x_k hR 64 rfl) (by decide) rfl mf_X12_isAt tw_1652 (Nat.le_of_ble_eq_true rfl) (Nat.le_of_ble_eq_true rfl) hl.1 (Nat.le_of_ble_eq_true rfl) dX12_blanks_5 ⟨Nat.le_refl _, Nat.le_refl _⟩ (fun H locs hR hS => ?_)
    refine lv_if_eq (tgt := 24) hx hb dX12_blanks_8 rfl (fun hc => ?_) (fun hc => ?_)
    · have hf := x_ip hc hf
      refine lv_aload_n hx hb dX12_blanks_24 rfl (lv_at hl 0 rfl) ?_
      refine lv_aload_n hx hb dX12_blanks_25 rfl (lv_at hl 0 rfl) ?_
      refine gf_12_6 C hR (x_k hR 64 rfl) tw_1549 dX12_blanks_26 ?_
      obtain ⟨h2, eh2, hf⟩ := x_lt hf
      refine pf_12_8 C hR hS (x_k hR 64 rfl) tw_1551 dX12_blanks_29 (fun H locs hR hS => ?_)
      rw [← eh2] at hR
      cases hf
      exact x_vret C hR hS dX12_blanks_32
    · have hf := x_in hc hf
      refine lv_aload_n hx hb dX12_blanks_11 rfl (lv_at hl 0 rfl) ?_
      refine lv_dup hx hb dX12_blanks_12 rfl ?_
      refine gf_12_6 C hR (x_k hR 64 rfl) tw_1549 dX12_blanks_13 ?_
      refine lv_iconst (v := 1) hx hb dX12_blanks_16 rfl ?_
      refine lv_iadd hx hb dX12_blanks_17 ?_
      obtain ⟨h3, eh3, hf⟩ := x_lt hf
      refine pf_12_6 C hR hS (x_k hR 64 rfl) tw_1549 dX12_blanks_18 (fun H locs hR hS => ?_)
      rw [← eh3] at hR
      refine lv_goto (tgt := 0) hx hb dX12_blanks_21 rfl ?_
      exact ih ls _ _ h3  (lv_sub hl [0] rfl) hR hS hf
set_option maxRecDepth 20000 in
theorem S_X12_blanks {l : Launch} {O : XO} {K : XK} {h : XH}  {h' : XH}  (hf : f_X12_blanks (oX O) h = some h') : x_M l O K yX12_blanks cX12_blanks 1 none 1 22 h [.ref (oX O + 64)] none h' := by
  refine x_enter (by decide) (Nat.le_of_ble_eq_true rfl) (fun p e s m args below meth c C hR ls hl => ?_)
  have hS : va_S (oA O) s.heap s.heap [] := va_S.rf
  have hx := C.1
  have hb := C.2.1
  have hl : lv_has ls 1 [(0, .ref (oX O + 64))] := hl
  rw [f_X12_blanks] at hf
  exact B_X12_blanks_0  C  x_FU ls _ _ h  (lv_sub hl [0] rfl) hR hS hf
def f_X12_letters_4 (x : Nat) : Nat → XH → Option (XH)
  | 0, _ => none
  | n + 1, h => Option.bind (f_X12_isAt x h 97 122) (fun v_2 => if v_2 = 0 then some h else x_let (x_i h (x + 64) 6 ((h.1 (x + 64) 6) + 1)) (fun h3 => f_X12_letters_4 x n h3))
def f_X12_letters (x : Nat) (h : XH) : Option (XH) := Option.bind (f_X12_blanks x h) (fun h1 => f_X12_letters_4 x x_FU h1)
set_option maxRecDepth 20000 in
theorem B_X12_letters_4 {p : Program} {l : Launch} {e : Env} {s : State} {m : MethodId} {args : Array Value} {below : List Frame} {meth : Method} {c : Code} {O : XO} {K : XK} {h' : XH}   (C : x_C p s m args meth c O cX12_letters 1 RX12 none)   : ∀ (n : Nat) (ls : Array Slot) (H : Heap) (locs : List Loc) (h : XH) (hl : lv_has ls 1 [(0, .ref (oX O + 64))]) (hR : x_R O K h H) (hS : va_S (oA O) s.heap H locs) (hf : f_X12_letters_4 (oX O) n h = some h'), W p l e (x_rm 2 42) s m args below meth c H locs 0 0 (MQ below (x_Qc O K h' none) args s 0 0 (oA O)) (F0 m 4 ls []) := by
  have hx := C.1
  have hb := C.2.1
  intro n
  induction n with
  | zero =>
    intro ls H locs h hl hR hS hf
    rw [f_X12_letters_4] at hf
    cases hf
  | succ n ih =>
    intro ls H locs h hl hR hS hf
    rw [f_X12_letters_4] at hf
    refine lv_aload_n hx hb dX12_letters_4 rfl (lv_at hl 0 rfl) ?_
    refine lv_bipush (v := 97) hx hb dX12_letters_5 rfl ?_
    refine lv_bipush (v := 122) hx hb dX12_letters_7 rfl ?_
    obtain ⟨v_2, ev_2, hf⟩ := x_bd hf
    refine x_cVi2 C hR hS (S_X12_isAt  ev_2) (x_k hR 64 rfl) (by decide) rfl mf_X12_isAt tw_1652 (Nat.le_of_ble_eq_true rfl) (Nat.le_of_ble_eq_true rfl) hl.1 (Nat.le_of_ble_eq_true rfl) dX12_letters_9 ⟨Nat.le_refl _, Nat.le_refl _⟩ (fun H locs hR hS => ?_)
    refine lv_if_eq (tgt := 28) hx hb dX12_letters_12 rfl (fun hc => ?_) (fun hc => ?_)
    · have hf := x_ip hc hf
      cases hf
      exact x_vret C hR hS dX12_letters_28
    · have hf := x_in hc hf
      refine lv_aload_n hx hb dX12_letters_15 rfl (lv_at hl 0 rfl) ?_
      refine lv_dup hx hb dX12_letters_16 rfl ?_
      refine gf_12_6 C hR (x_k hR 64 rfl) tw_1549 dX12_letters_17 ?_
      refine lv_iconst (v := 1) hx hb dX12_letters_20 rfl ?_
      refine lv_iadd hx hb dX12_letters_21 ?_
      obtain ⟨h3, eh3, hf⟩ := x_lt hf
      refine pf_12_6 C hR hS (x_k hR 64 rfl) tw_1549 dX12_letters_22 (fun H locs hR hS => ?_)
      rw [← eh3] at hR
      refine lv_goto (tgt := 4) hx hb dX12_letters_25 rfl ?_
      exact ih ls _ _ h3  (lv_sub hl [0] rfl) hR hS hf
set_option maxRecDepth 20000 in
theorem S_X12_letters {l : Launch} {O : XO} {K : XK} {h : XH}  {h' : XH}  (hf : f_X12_letters (oX O) h = some h') : x_M l O K yX12_letters cX12_letters 1 none 2 42 h [.ref (oX O + 64)] none h' := by
  refine x_enter (by decide) (Nat.le_of_ble_eq_true rfl) (fun p e s m args below meth c C hR ls hl => ?_)
  have hS : va_S (oA O) s.heap s.heap [] := va_S.rf
  have hx := C.1
  have hb := C.2.1
  have hl : lv_has ls 1 [(0, .ref (oX O + 64))] := hl
  rw [f_X12_letters] at hf
  refine lv_aload_n hx hb dX12_letters_0 rfl (lv_at hl 0 rfl) ?_
  obtain ⟨h1, eh1, hf⟩ := x_bd hf
  refine x_cVv0 C hR hS (S_X12_blanks  eh1) (x_k hR 64 rfl) (by decide) rfl mf_X12_blanks tw_1648 (Nat.le_of_ble_eq_true rfl) (Nat.le_of_ble_eq_true rfl) hl.1 (Nat.le_of_ble_eq_true rfl) dX12_letters_1 ⟨Nat.le_refl _, Nat.le_refl _⟩ (fun H locs hR hS => ?_)
  exact B_X12_letters_4  C  x_FU ls _ _ h1  (lv_sub hl [0] rfl) hR hS hf
def f_X12_sign (x : Nat) (h : XH) (v1 : Int32) : Option (Int32 × XH) := Option.bind (f_X12_blanks x h) (fun h1 => Option.bind (f_X12_isAt x h1 v1 v1) (fun v_2 => if v_2 = 0 then some (0, h1) else x_let (x_i h1 (x + 64) 6 ((h1.1 (x + 64) 6) + 1)) (fun h3 => some (1, h3))))
set_option maxRecDepth 20000 in
theorem S_X12_sign {l : Launch} {O : XO} {K : XK} {h : XH} {v1 : Int32}  {r : Int32} {h' : XH}  (hf : f_X12_sign (oX O) h v1 = some (r, h')) : x_M l O K yX12_sign cX12_sign 2 (some .boolean) 2 42 h [.ref (oX O + 64), .int v1] (some (.int r)) h' := by
  refine x_enter (by decide) (Nat.le_of_ble_eq_true rfl) (fun p e s m args below meth c C hR ls hl => ?_)
  have hS : va_S (oA O) s.heap s.heap [] := va_S.rf
  have hx := C.1
  have hb := C.2.1
  have hl : lv_has ls 2 [(0, .ref (oX O + 64)), (1, .int v1)] := hl
  rw [f_X12_sign] at hf
  refine lv_aload_n hx hb dX12_sign_0 rfl (lv_at hl 0 rfl) ?_
  obtain ⟨h1, eh1, hf⟩ := x_bd hf
  refine x_cVv0 C hR hS (S_X12_blanks  eh1) (x_k hR 64 rfl) (by decide) rfl mf_X12_blanks tw_1648 (Nat.le_of_ble_eq_true rfl) (Nat.le_of_ble_eq_true rfl) hl.1 (Nat.le_of_ble_eq_true rfl) dX12_sign_1 ⟨Nat.le_refl _, Nat.le_refl _⟩ (fun H locs hR hS => ?_)
  refine lv_aload_n hx hb dX12_sign_4 rfl (lv_at hl 0 rfl) ?_
  refine lv_iload_n hx hb dX12_sign_5 rfl (lv_at hl 1 rfl) ?_
  refine lv_iload_n hx hb dX12_sign_6 rfl (lv_at hl 1 rfl) ?_
  obtain ⟨v_2, ev_2, hf⟩ := x_bd hf
  refine x_cVi2 C hR hS (S_X12_isAt  ev_2) (x_k hR 64 rfl) (by decide) rfl mf_X12_isAt tw_1652 (Nat.le_of_ble_eq_true rfl) (Nat.le_of_ble_eq_true rfl) hl.1 (Nat.le_of_ble_eq_true rfl) dX12_sign_7 ⟨Nat.le_refl _, Nat.le_refl _⟩ (fun H locs hR hS => ?_)
  refine lv_if_ne (tgt := 15) hx hb dX12_sign_10 rfl (fun hc => ?_) (fun hc => ?_)
  · have hf := x_in hc hf
    refine lv_aload_n hx hb dX12_sign_15 rfl (lv_at hl 0 rfl) ?_
    refine lv_dup hx hb dX12_sign_16 rfl ?_
    refine gf_12_6 C hR (x_k hR 64 rfl) tw_1549 dX12_sign_17 ?_
    refine lv_iconst (v := 1) hx hb dX12_sign_20 rfl ?_
    refine lv_iadd hx hb dX12_sign_21 ?_
    obtain ⟨h3, eh3, hf⟩ := x_lt hf
    refine pf_12_6 C hR hS (x_k hR 64 rfl) tw_1549 dX12_sign_22 (fun H locs hR hS => ?_)
    rw [← eh3] at hR
    refine lv_iconst (v := 1) hx hb dX12_sign_25 rfl ?_
    cases hf
    exact x_zret C hR hS (Or.inr rfl) dX12_sign_26
  · have hf := x_ip hc hf
    refine lv_iconst (v := 0) hx hb dX12_sign_13 rfl ?_
    cases hf
    exact x_zret C hR hS (Or.inl rfl) dX12_sign_14
def f_X12_number_51 (k6 : XH → Int32 → Option (Int32 × XH)) (x : Nat) (h : XH) (s0 : Int32) : Option (Int32 × XH) := x_let (x_i h (x + 64) 6 ((h.1 (x + 64) 6) + 1)) (fun h4 => k6 h4 s0)
def f_X12_number_6 (x : Nat) : Nat → XH → Int32 → Option (Int32 × XH)
  | 0, _, _ => none
  | n + 1, h, v1 => Option.bind (f_X12_isAt x h 48 57) (fun v_2 => if v_2 = 0 then some ((if (h.1 (x + 64) 6) = (h.1 (x + 64) 8) then (-1) else (if ((h.1 (x + 64) 6) - (h.1 (x + 64) 8)) ≤ 3 then v1 else (-1))), h) else if 3 ≤ ((h.1 (x + 64) 6) - (h.1 (x + 64) 8)) then f_X12_number_51 (f_X12_number_6 x n) x h v1 else if x_b (h.1 (x + 64) 6) 400 = true then f_X12_number_51 (f_X12_number_6 x n) x h (((10 * v1) + (h.1 (x + 67) (h.1 (x + 64) 6).toNatClampNeg)) - 48) else none)
def f_X12_number (x : Nat) (h : XH) : Option (Int32 × XH) := Option.bind (f_X12_blanks x h) (fun h1 => f_X12_number_6 x x_FU h1 0)
set_option maxRecDepth 20000 in
theorem B_X12_number_51 {p : Program} {l : Launch} {e : Env} {s : State} {m : MethodId} {args : Array Value} {below : List Frame} {meth : Method} {c : Code} {O : XO} {K : XK} {r : Int32} {h' : XH}  {k6 : XH → Int32 → Option (Int32 × XH)} (C : x_C p s m args meth c O cX12_number 2 RX12 (some .int)) (hk6 : ∀ (ls : Array Slot) (H : Heap) (locs : List Loc) (h : XH) (v1 : Int32), lv_has ls 2 [(0, .ref (oX O + 64)), (1, .int v1)] → x_R O K h H → va_S (oA O) s.heap H locs → k6 h v1 = some (r, h') → W p l e (x_rm 2 42) s m args below meth c H locs 0 0 (MQ below (x_Qc O K h' (some (.int r))) args s 0 0 (oA O)) (F0 m 6 ls []))  (ls : Array Slot) (H : Heap) (locs : List Loc) (h : XH) (s0 : Int32) (hl : lv_has ls 2 [(0, .ref (oX O + 64))]) (hR : x_R O K h H) (hS : va_S (oA O) s.heap H locs) (hf : f_X12_number_51 k6 (oX O) h s0 = some (r, h')) : W p l e (x_rm 2 42) s m args below meth c H locs 0 0 (MQ below (x_Qc O K h' (some (.int r))) args s 0 0 (oA O)) (F0 m 51 ls [.int s0]) := by
  have hx := C.1
  have hb := C.2.1
  rw [f_X12_number_51] at hf
  refine lv_istore_n (lv' := [(1, _), (0, _)]) hx hb dX12_number_51 rfl hl (Nat.le_of_ble_eq_true rfl) rfl (fun ls hl => ?_)
  refine lv_aload_n hx hb dX12_number_52 rfl (lv_at hl 1 rfl) ?_
  refine lv_dup hx hb dX12_number_53 rfl ?_
  refine gf_12_6 C hR (x_k hR 64 rfl) tw_1549 dX12_number_54 ?_
  refine lv_iconst (v := 1) hx hb dX12_number_57 rfl ?_
  refine lv_iadd hx hb dX12_number_58 ?_
  obtain ⟨h4, eh4, hf⟩ := x_lt hf
  refine pf_12_6 C hR hS (x_k hR 64 rfl) tw_1549 dX12_number_59 (fun H locs hR hS => ?_)
  rw [← eh4] at hR
  refine lv_goto (tgt := 6) hx hb dX12_number_62 rfl ?_
  exact hk6 ls _ _ h4 _  (lv_sub hl [1, 0] rfl) hR hS hf
set_option maxRecDepth 20000 in
theorem B_X12_number_6 {p : Program} {l : Launch} {e : Env} {s : State} {m : MethodId} {args : Array Value} {below : List Frame} {meth : Method} {c : Code} {O : XO} {K : XK} {r : Int32} {h' : XH}   (C : x_C p s m args meth c O cX12_number 2 RX12 (some .int))   : ∀ (n : Nat) (ls : Array Slot) (H : Heap) (locs : List Loc) (h : XH) (v1 : Int32) (hl : lv_has ls 2 [(0, .ref (oX O + 64)), (1, .int v1)]) (hR : x_R O K h H) (hS : va_S (oA O) s.heap H locs) (hf : f_X12_number_6 (oX O) n h v1 = some (r, h')), W p l e (x_rm 2 42) s m args below meth c H locs 0 0 (MQ below (x_Qc O K h' (some (.int r))) args s 0 0 (oA O)) (F0 m 6 ls []) := by
  have hx := C.1
  have hb := C.2.1
  intro n
  induction n with
  | zero =>
    intro ls H locs h v1 hl hR hS hf
    rw [f_X12_number_6] at hf
    cases hf
  | succ n ih =>
    intro ls H locs h v1 hl hR hS hf
    rw [f_X12_number_6] at hf
    refine lv_aload_n hx hb dX12_number_6 rfl (lv_at hl 0 rfl) ?_
    refine lv_bipush (v := 48) hx hb dX12_number_7 rfl ?_
    refine lv_bipush (v := 57) hx hb dX12_number_9 rfl ?_
    obtain ⟨v_2, ev_2, hf⟩ := x_bd hf
    refine x_cVi2 C hR hS (S_X12_isAt  ev_2) (x_k hR 64 rfl) (by decide) rfl mf_X12_isAt tw_1652 (Nat.le_of_ble_eq_true rfl) (Nat.le_of_ble_eq_true rfl) hl.1 (Nat.le_of_ble_eq_true rfl) dX12_number_11 ⟨Nat.le_refl _, Nat.le_refl _⟩ (fun H locs hR hS => ?_)
    refine lv_if_eq (tgt := 65) hx hb dX12_number_14 rfl (fun hc => ?_) (fun hc => ?_)
    · have hf := x_ip hc hf
      refine lv_aload_n hx hb dX12_number_65 rfl (lv_at hl 0 rfl) ?_
      refine gf_12_6 C hR (x_k hR 64 rfl) tw_1549 dX12_number_66 ?_
      refine lv_aload_n hx hb dX12_number_69 rfl (lv_at hl 0 rfl) ?_
      refine gf_12_8 C hR (x_k hR 64 rfl) tw_1551 dX12_number_70 ?_
      have kM3 : ∀ (ls : Array Slot) (H : Heap) (locs : List Loc), lv_has ls 2 [] → x_R O K h H → va_S (oA O) s.heap H locs → W p l e (x_rm 2 42) s m args below meth c H locs 0 0 (MQ below (x_Qc O K h' (some (.int r))) args s 0 0 (oA O)) (F0 m 94 ls [.int (if (h.1 (oX O + 64) 6) = (h.1 (oX O + 64) 8) then (-1) else (if ((h.1 (oX O + 64) 6) - (h.1 (oX O + 64) 8)) ≤ 3 then v1 else (-1)))]) := by
        intro ls H locs hl hR hS
        cases hf
        exact x_iret C hR hS dX12_number_94
      refine lv_icmp_eq (tgt := 89) hx hb dX12_number_73 rfl (fun hc => ?_) (fun hc => ?_)
      · try simp only [if_pos hc] at kM3
        refine lv_iconst (v := (-1)) hx hb dX12_number_89 rfl ?_
        refine lv_goto (tgt := 94) hx hb dX12_number_90 rfl ?_
        exact kM3 ls _ _ (lv_sub hl [] rfl) hR hS
      · try simp only [if_neg hc] at kM3
        refine lv_aload_n hx hb dX12_number_76 rfl (lv_at hl 0 rfl) ?_
        refine gf_12_6 C hR (x_k hR 64 rfl) tw_1549 dX12_number_77 ?_
        refine lv_aload_n hx hb dX12_number_80 rfl (lv_at hl 0 rfl) ?_
        refine gf_12_8 C hR (x_k hR 64 rfl) tw_1551 dX12_number_81 ?_
        refine lv_isub hx hb dX12_number_84 ?_
        refine lv_iconst (v := 3) hx hb dX12_number_85 rfl ?_
        refine lv_icmp_le (tgt := 93) hx hb dX12_number_86 rfl (fun hc => ?_) (fun hc => ?_)
        · try simp only [if_pos hc] at kM3
          refine lv_iload_n hx hb dX12_number_93 rfl (lv_at hl 1 rfl) ?_
          exact kM3 ls _ _ (lv_sub hl [] rfl) hR hS
        · try simp only [if_neg hc] at kM3
          refine lv_iconst (v := (-1)) hx hb dX12_number_89 rfl ?_
          refine lv_goto (tgt := 94) hx hb dX12_number_90 rfl ?_
          exact kM3 ls _ _ (lv_sub hl [] rfl) hR hS
    · have hf := x_in hc hf
      refine lv_aload_n hx hb dX12_number_17 rfl (lv_at hl 0 rfl) ?_
      refine gf_12_6 C hR (x_k hR 64 rfl) tw_1549 dX12_number_18 ?_
      refine lv_aload_n hx hb dX12_number_21 rfl (lv_at hl 0 rfl) ?_
      refine gf_12_8 C hR (x_k hR 64 rfl) tw_1551 dX12_number_22 ?_
      refine lv_isub hx hb dX12_number_25 ?_
      refine lv_iconst (v := 3) hx hb dX12_number_26 rfl ?_
      refine lv_icmp_ge (tgt := 50) hx hb dX12_number_27 rfl (fun hc => ?_) (fun hc => ?_)
      · have hf := x_ip hc hf
        refine lv_iload_n hx hb dX12_number_50 rfl (lv_at hl 1 rfl) ?_
        exact B_X12_number_51  C ih  ls _ _ h _  (lv_sub hl [0] rfl) hR hS hf
      · have hf := x_in hc hf
        refine lv_bipush (v := 10) hx hb dX12_number_30 rfl ?_
        refine lv_iload_n hx hb dX12_number_32 rfl (lv_at hl 1 rfl) ?_
        refine lv_imul hx hb dX12_number_33 ?_
        refine lv_aload_n hx hb dX12_number_34 rfl (lv_at hl 0 rfl) ?_
        refine gf_12_4 C hR (x_k hR 64 rfl) tw_1547 dX12_number_35 ?_
        refine lv_aload_n hx hb dX12_number_38 rfl (lv_at hl 0 rfl) ?_
        refine gf_12_6 C hR (x_k hR 64 rfl) tw_1549 dX12_number_39 ?_
        obtain ⟨g5, hf⟩ := x_gd hf
        refine x_bald C hR (x_k1 (x_k hR 67 rfl)) (x_k2 (x_k hR 67 rfl) g5) dX12_number_42 ?_
        refine lv_iadd hx hb dX12_number_43 ?_
        refine lv_bipush (v := 48) hx hb dX12_number_44 rfl ?_
        refine lv_isub hx hb dX12_number_46 ?_
        refine lv_goto (tgt := 51) hx hb dX12_number_47 rfl ?_
        exact B_X12_number_51  C ih  ls _ _ h _  (lv_sub hl [0] rfl) hR hS hf
set_option maxRecDepth 20000 in
theorem S_X12_number {l : Launch} {O : XO} {K : XK} {h : XH}  {r : Int32} {h' : XH}  (hf : f_X12_number (oX O) h = some (r, h')) : x_M l O K yX12_number cX12_number 2 (some .int) 2 42 h [.ref (oX O + 64)] (some (.int r)) h' := by
  refine x_enter (by decide) (Nat.le_of_ble_eq_true rfl) (fun p e s m args below meth c C hR ls hl => ?_)
  have hS : va_S (oA O) s.heap s.heap [] := va_S.rf
  have hx := C.1
  have hb := C.2.1
  have hl : lv_has ls 2 [(0, .ref (oX O + 64))] := hl
  rw [f_X12_number] at hf
  refine lv_aload_n hx hb dX12_number_0 rfl (lv_at hl 0 rfl) ?_
  obtain ⟨h1, eh1, hf⟩ := x_bd hf
  refine x_cVv0 C hR hS (S_X12_blanks  eh1) (x_k hR 64 rfl) (by decide) rfl mf_X12_blanks tw_1648 (Nat.le_of_ble_eq_true rfl) (Nat.le_of_ble_eq_true rfl) hl.1 (Nat.le_of_ble_eq_true rfl) dX12_number_1 ⟨Nat.le_refl _, Nat.le_refl _⟩ (fun H locs hR hS => ?_)
  refine lv_iconst (v := 0) hx hb dX12_number_4 rfl ?_
  refine lv_istore_n (lv' := [(1, _), (0, _)]) hx hb dX12_number_5 rfl hl (Nat.le_of_ble_eq_true rfl) rfl (fun ls hl => ?_)
  exact B_X12_number_6  C  x_FU ls _ _ h1 _  (lv_sub hl [1, 0] rfl) hR hS hf
def f_X12_fault (x : Nat) (h : XH) : Int32 × XH := x_let (x_i h (x + 64) 0 0) (fun h1 => ((h1.1 (x + 64) 10), h1))
set_option maxRecDepth 20000 in
theorem S_X12_fault {l : Launch} {O : XO} {K : XK} {h : XH}  {r : Int32} {h' : XH}  (hf : f_X12_fault (oX O) h = (r, h')) : x_M l O K yX12_fault cX12_fault 1 (some .int) 0 0 h [.ref (oX O + 64)] (some (.int r)) h' := by
  refine x_enter (by decide) (Nat.le_of_ble_eq_true rfl) (fun p e s m args below meth c C hR ls hl => ?_)
  have hS : va_S (oA O) s.heap s.heap [] := va_S.rf
  have hx := C.1
  have hb := C.2.1
  have hl : lv_has ls 1 [(0, .ref (oX O + 64))] := hl
  rw [f_X12_fault] at hf
  refine lv_aload_n hx hb dX12_fault_0 rfl (lv_at hl 0 rfl) ?_
  refine lv_iconst (v := 0) hx hb dX12_fault_1 rfl ?_
  obtain ⟨h1, eh1, hf⟩ := x_lt hf
  refine pf_12_0 C hR hS (x_k hR 64 rfl) tw_1543 dX12_fault_2 (fun H locs hR hS => ?_)
  rw [← eh1] at hR
  refine lv_aload_n hx hb dX12_fault_5 rfl (lv_at hl 0 rfl) ?_
  refine gf_12_10 C hR (x_k hR 64 rfl) tw_1553 dX12_fault_6 ?_
  cases hf
  exact x_iret C hR hS dX12_fault_9
def f_X12_textAt (h : XH) (v0 : Int32) : Int32 := (970 + (851 * v0))
set_option maxRecDepth 20000 in
theorem S_X12_textAt {l : Launch} {O : XO} {K : XK} {h : XH} {v0 : Int32}  {r : Int32}  (hf : f_X12_textAt h v0 = r) : x_M l O K yX12_textAt cX12_textAt 1 (some .int) 0 0 h [.int v0] (some (.int r)) h := by
  refine x_enter (by decide) (Nat.le_of_ble_eq_true rfl) (fun p e s m args below meth c C hR ls hl => ?_)
  have hS : va_S (oA O) s.heap s.heap [] := va_S.rf
  have hx := C.1
  have hb := C.2.1
  have hl : lv_has ls 1 [(0, .int v0)] := hl
  rw [f_X12_textAt] at hf
  refine lv_sipush (v := 970) hx hb dX12_textAt_0 rfl ?_
  refine lv_sipush (v := 851) hx hb dX12_textAt_3 rfl ?_
  refine lv_iload_n hx hb dX12_textAt_6 rfl (lv_at hl 0 rfl) ?_
  refine lv_imul hx hb dX12_textAt_7 ?_
  refine lv_iadd hx hb dX12_textAt_8 ?_
  cases hf
  exact x_iret C hR hS dX12_textAt_9
def f_X12_lineAt (h : XH) (v0 : Int32) (v1 : Int32) : Int32 := (((f_X12_textAt h v0) + 1) + (5 * v1))
set_option maxRecDepth 20000 in
theorem S_X12_lineAt {l : Launch} {O : XO} {K : XK} {h : XH} {v0 : Int32} {v1 : Int32}  {r : Int32}  (hf : f_X12_lineAt h v0 v1 = r) : x_M l O K yX12_lineAt cX12_lineAt 2 (some .int) 1 20 h [.int v0, .int v1] (some (.int r)) h := by
  refine x_enter (by decide) (Nat.le_of_ble_eq_true rfl) (fun p e s m args below meth c C hR ls hl => ?_)
  have hS : va_S (oA O) s.heap s.heap [] := va_S.rf
  have hx := C.1
  have hb := C.2.1
  have hl : lv_has ls 2 [(0, .int v0), (1, .int v1)] := hl
  rw [f_X12_lineAt] at hf
  refine lv_iload_n hx hb dX12_lineAt_0 rfl (lv_at hl 0 rfl) ?_
  refine x_cSi1 C hR hS (S_X12_textAt  rfl) mf_X12_textAt tw_1667 (Nat.le_of_ble_eq_true rfl) (Nat.le_of_ble_eq_true rfl) hl.1 (Nat.le_of_ble_eq_true rfl) dX12_lineAt_1 ⟨Nat.le_refl _, Nat.le_refl _⟩ (fun H locs hR hS => ?_)
  refine lv_iconst (v := 1) hx hb dX12_lineAt_4 rfl ?_
  refine lv_iadd hx hb dX12_lineAt_5 ?_
  refine lv_iconst (v := 5) hx hb dX12_lineAt_6 rfl ?_
  refine lv_iload_n hx hb dX12_lineAt_7 rfl (lv_at hl 1 rfl) ?_
  refine lv_imul hx hb dX12_lineAt_8 ?_
  refine lv_iadd hx hb dX12_lineAt_9 ?_
  cases hf
  exact x_iret C hR hS dX12_lineAt_10
def f_X12_emits (x : Nat) (h : XH) (v1 : Int32) (v2 : Int32) : Option (XH) := x_let ((((f_X12_textAt h 6) + 51) + (2 * (h.1 (x + 64) 12))) : Int32) (fun t1 => if x_b t1 6927 = true then x_let (x_i h (x + 65) t1.toNatClampNeg v1) (fun h3 => if x_b (t1 + 1) 6927 = true then x_let (x_i h3 (x + 65) (t1 + 1).toNatClampNeg v2) (fun h5 => x_let (x_i h5 (x + 64) 12 ((h5.1 (x + 64) 12) + 1)) (fun h6 => some h6)) else none) else none)
set_option maxRecDepth 20000 in
theorem S_X12_emits {l : Launch} {O : XO} {K : XK} {h : XH} {v1 : Int32} {v2 : Int32}  {h' : XH}  (hf : f_X12_emits (oX O) h v1 v2 = some h') : x_M l O K yX12_emits cX12_emits 4 none 1 20 h [.ref (oX O + 64), .int v1, .int v2] none h' := by
  refine x_enter (by decide) (Nat.le_of_ble_eq_true rfl) (fun p e s m args below meth c C hR ls hl => ?_)
  have hS : va_S (oA O) s.heap s.heap [] := va_S.rf
  have hx := C.1
  have hb := C.2.1
  have hl : lv_has ls 4 [(0, .ref (oX O + 64)), (1, .int v1), (2, .int v2)] := hl
  rw [f_X12_emits] at hf
  refine lv_bipush (v := 6) hx hb dX12_emits_0 rfl ?_
  refine x_cSi1 C hR hS (S_X12_textAt  rfl) mf_X12_textAt tw_1667 (Nat.le_of_ble_eq_true rfl) (Nat.le_of_ble_eq_true rfl) hl.1 (Nat.le_of_ble_eq_true rfl) dX12_emits_2 ⟨Nat.le_refl _, Nat.le_refl _⟩ (fun H locs hR hS => ?_)
  refine lv_bipush (v := 51) hx hb dX12_emits_5 rfl ?_
  refine lv_iadd hx hb dX12_emits_7 ?_
  refine lv_iconst (v := 2) hx hb dX12_emits_8 rfl ?_
  refine lv_aload_n hx hb dX12_emits_9 rfl (lv_at hl 0 rfl) ?_
  refine gf_12_12 C hR (x_k hR 64 rfl) tw_1555 dX12_emits_10 ?_
  refine lv_imul hx hb dX12_emits_13 ?_
  refine lv_iadd hx hb dX12_emits_14 ?_
  obtain ⟨t1, et1, hf⟩ := x_lt hf
  refine x_nmi et1 ?_
  refine lv_istore_n (lv' := [(3, _), (0, _), (1, _), (2, _)]) hx hb dX12_emits_15 rfl hl (Nat.le_of_ble_eq_true rfl) rfl (fun ls hl => ?_)
  refine lv_aload_n hx hb dX12_emits_16 rfl (lv_at hl 1 rfl) ?_
  refine gf_12_1 C hR (x_k hR 64 rfl) tw_1544 dX12_emits_17 ?_
  refine lv_iload_n hx hb dX12_emits_20 rfl (lv_at hl 0 rfl) ?_
  refine lv_iload_n hx hb dX12_emits_21 rfl (lv_at hl 2 rfl) ?_
  obtain ⟨g2, hf⟩ := x_gd hf
  obtain ⟨h3, eh3, hf⟩ := x_lt hf
  refine x_iast C hR hS (x_k1 (x_k hR 65 rfl)) (x_k2 (x_k hR 65 rfl) g2) dX12_emits_22 (fun H locs hR hS => ?_)
  rw [← eh3] at hR
  refine lv_aload_n hx hb dX12_emits_23 rfl (lv_at hl 1 rfl) ?_
  refine gf_12_1 C hR (x_k hR 64 rfl) tw_1544 dX12_emits_24 ?_
  refine lv_iload_n hx hb dX12_emits_27 rfl (lv_at hl 0 rfl) ?_
  refine lv_iconst (v := 1) hx hb dX12_emits_28 rfl ?_
  refine lv_iadd hx hb dX12_emits_29 ?_
  refine lv_iload_n hx hb dX12_emits_30 rfl (lv_at hl 3 rfl) ?_
  obtain ⟨g4, hf⟩ := x_gd hf
  obtain ⟨h5, eh5, hf⟩ := x_lt hf
  refine x_iast C hR hS (x_k1 (x_k hR 65 rfl)) (x_k2 (x_k hR 65 rfl) g4) dX12_emits_31 (fun H locs hR hS => ?_)
  rw [← eh5] at hR
  refine lv_aload_n hx hb dX12_emits_32 rfl (lv_at hl 1 rfl) ?_
  refine lv_dup hx hb dX12_emits_33 rfl ?_
  refine gf_12_12 C hR (x_k hR 64 rfl) tw_1555 dX12_emits_34 ?_
  refine lv_iconst (v := 1) hx hb dX12_emits_37 rfl ?_
  refine lv_iadd hx hb dX12_emits_38 ?_
  obtain ⟨h6, eh6, hf⟩ := x_lt hf
  refine pf_12_12 C hR hS (x_k hR 64 rfl) tw_1555 dX12_emits_39 (fun H locs hR hS => ?_)
  rw [← eh6] at hR
  cases hf
  exact x_vret C hR hS dX12_emits_42
def f_X12_holdsLine_284 (x : Nat) (h : XH) : Option (Int32 × XH) := some (1, h)
def f_X12_holdsLine_264 (k12 : XH → Int32 → Int32 → Int32 → Int32 → Option (Int32 × XH)) (x : Nat) (h : XH) (v1 : Int32) (v2 : Int32) (v3 : Int32) (v4 : Int32) : Option (Int32 × XH) := k12 h v1 v2 v3 (v4 + 1)
def f_X12_holdsLine_92 (k12 : XH → Int32 → Int32 → Int32 → Int32 → Option (Int32 × XH)) (x : Nat) (h : XH) (v1 : Int32) (v2 : Int32) (v3 : Int32) (v4 : Int32) (s1 : Int32) (s2 : Int32) : Option (Int32 × XH) := if x_b s1 400 = true then x_let (x_i h (x + 70) s1.toNatClampNeg s2) (fun h22 => f_X12_holdsLine_264 k12 x h22 v1 v2 (v3 + 1) v4) else none
def f_X12_holdsLine_12 (x : Nat) : Nat → XH → Int32 → Int32 → Int32 → Int32 → Option (Int32 × XH)
  | 0, _, _, _, _, _ => none
  | n + 1, h, v1, v2, v3, v4 => if x_b (v2 + 4) 6927 = true then if (h.1 (x + 65) (v2 + 4).toNatClampNeg) ≤ v4 then if v3 = 0 then f_X12_holdsLine_284 x h else if x_b 0 400 = true then some ((if (h.1 (x + 70) (0 : Int32).toNatClampNeg) = 1 then 1 else 0), h) else none else if x_b (((f_X12_textAt h v1) + 51) + (2 * v4)) 6927 = true then x_let ((h.1 (x + 65) (((f_X12_textAt h v1) + 51) + (2 * v4)).toNatClampNeg) : Int32) (fun t7 => if 10 < t7 then if t7 = 14 then if x_b (v3 - 1) 400 = true then if x_b (v3 - 1) 400 = true then x_let (x_i h (x + 70) (v3 - 1).toNatClampNeg (1 - (h.1 (x + 70) (v3 - 1).toNatClampNeg))) (fun h19 => f_X12_holdsLine_264 (f_X12_holdsLine_12 x n) x h19 v1 v2 v3 v4) else none else none else if x_b ((v3 + (-1)) - 1) 400 = true then x_let ((h.1 (x + 70) ((v3 + (-1)) - 1).toNatClampNeg) : Int32) (fun t9 => if x_b (v3 + (-1)) 400 = true then x_let ((h.1 (x + 70) (v3 + (-1)).toNatClampNeg) : Int32) (fun t11 => x_let ((if t7 = 12 then (if t11 ≤ t9 then 0 else 1) else (if t7 = 13 then (if t9 ≤ t11 then 0 else 1) else (if t7 = 15 then (if (t9 + t11) = 2 then 1 else 0) else (if (t9 + t11) ≤ 0 then 0 else 1)))) : Int32) (fun t13 => if x_b ((v3 + (-1)) - 1) 400 = true then x_let (x_i h (x + 70) ((v3 + (-1)) - 1).toNatClampNeg (if t7 = 11 then (t9 + t11) else (if t13 = 0 then 0 else 1))) (fun h16 => f_X12_holdsLine_264 (f_X12_holdsLine_12 x n) x h16 v1 v2 (v3 + (-1)) v4) else none)) else none) else none else if t7 = 10 then if x_b ((((f_X12_textAt h v1) + 51) + (2 * v4)) + 1) 6927 = true then f_X12_holdsLine_92 (f_X12_holdsLine_12 x n) x h v1 v2 v3 v4 v3 (h.1 (x + 65) ((((f_X12_textAt h v1) + 51) + (2 * v4)) + 1).toNatClampNeg) else none else if x_b t7 10 = true then f_X12_holdsLine_92 (f_X12_holdsLine_12 x n) x h v1 v2 v3 v4 v3 (h.1 (x + 69) t7.toNatClampNeg) else none) else none else none
def f_X12_holdsLine (x : Nat) (h : XH) (v1 : Int32) (v2 : Int32) : Option (Int32 × XH) := if x_b (v2 + 3) 6927 = true then x_let ((h.1 (x + 65) (v2 + 3).toNatClampNeg) : Int32) (fun t2 => f_X12_holdsLine_12 x x_FU h v1 v2 0 t2) else none
set_option maxRecDepth 20000 in
theorem B_X12_holdsLine_284 {p : Program} {l : Launch} {e : Env} {s : State} {m : MethodId} {args : Array Value} {below : List Frame} {meth : Method} {c : Code} {O : XO} {K : XK} {r : Int32} {h' : XH}   (C : x_C p s m args meth c O cX12_holdsLine 9 RX12 (some .boolean))   (ls : Array Slot) (H : Heap) (locs : List Loc) (h : XH) (hl : lv_has ls 9 []) (hR : x_R O K h H) (hS : va_S (oA O) s.heap H locs) (hf : f_X12_holdsLine_284 (oX O) h = some (r, h')) : W p l e (x_rm 1 20) s m args below meth c H locs 0 0 (MQ below (x_Qc O K h' (some (.int r))) args s 0 0 (oA O)) (F0 m 284 ls []) := by
  have hx := C.1
  have hb := C.2.1
  rw [f_X12_holdsLine_284] at hf
  refine lv_iconst (v := 1) hx hb dX12_holdsLine_284 rfl ?_
  refine lv_goto (tgt := 289) hx hb dX12_holdsLine_285 rfl ?_
  cases hf
  exact x_zret C hR hS (Or.inr rfl) dX12_holdsLine_289
set_option maxRecDepth 20000 in
theorem B_X12_holdsLine_264 {p : Program} {l : Launch} {e : Env} {s : State} {m : MethodId} {args : Array Value} {below : List Frame} {meth : Method} {c : Code} {O : XO} {K : XK} {r : Int32} {h' : XH}  {k12 : XH → Int32 → Int32 → Int32 → Int32 → Option (Int32 × XH)} (C : x_C p s m args meth c O cX12_holdsLine 9 RX12 (some .boolean)) (hk12 : ∀ (ls : Array Slot) (H : Heap) (locs : List Loc) (h : XH) (v1 : Int32) (v2 : Int32) (v3 : Int32) (v4 : Int32), lv_has ls 9 [(0, .ref (oX O + 64)), (1, .int v1), (2, .int v2), (3, .int v3), (4, .int v4)] → x_R O K h H → va_S (oA O) s.heap H locs → k12 h v1 v2 v3 v4 = some (r, h') → W p l e (x_rm 1 20) s m args below meth c H locs 0 0 (MQ below (x_Qc O K h' (some (.int r))) args s 0 0 (oA O)) (F0 m 12 ls []))  (ls : Array Slot) (H : Heap) (locs : List Loc) (h : XH) (v1 : Int32) (v2 : Int32) (v3 : Int32) (v4 : Int32) (hl : lv_has ls 9 [(0, .ref (oX O + 64)), (1, .int v1), (2, .int v2), (3, .int v3), (4, .int v4)]) (hR : x_R O K h H) (hS : va_S (oA O) s.heap H locs) (hf : f_X12_holdsLine_264 k12 (oX O) h v1 v2 v3 v4 = some (r, h')) : W p l e (x_rm 1 20) s m args below meth c H locs 0 0 (MQ below (x_Qc O K h' (some (.int r))) args s 0 0 (oA O)) (F0 m 264 ls []) := by
  have hx := C.1
  have hb := C.2.1
  rw [f_X12_holdsLine_264] at hf
  refine lv_iinc (k := 4) (v := _ + 1) (lv' := [(4, _), (0, _), (1, _), (2, _), (3, _)]) hx hb dX12_holdsLine_264 hl rfl (x_inc 1 1 rfl _) (Nat.le_of_ble_eq_true rfl) rfl (fun ls hl => ?_)
  refine lv_goto (tgt := 12) hx hb dX12_holdsLine_267 rfl ?_
  exact hk12 ls _ _ h _ _ _ _  (lv_sub hl [1, 2, 3, 4, 0] rfl) hR hS hf
set_option maxRecDepth 20000 in
theorem B_X12_holdsLine_92 {p : Program} {l : Launch} {e : Env} {s : State} {m : MethodId} {args : Array Value} {below : List Frame} {meth : Method} {c : Code} {O : XO} {K : XK} {r : Int32} {h' : XH}  {k12 : XH → Int32 → Int32 → Int32 → Int32 → Option (Int32 × XH)} (C : x_C p s m args meth c O cX12_holdsLine 9 RX12 (some .boolean)) (hk12 : ∀ (ls : Array Slot) (H : Heap) (locs : List Loc) (h : XH) (v1 : Int32) (v2 : Int32) (v3 : Int32) (v4 : Int32), lv_has ls 9 [(0, .ref (oX O + 64)), (1, .int v1), (2, .int v2), (3, .int v3), (4, .int v4)] → x_R O K h H → va_S (oA O) s.heap H locs → k12 h v1 v2 v3 v4 = some (r, h') → W p l e (x_rm 1 20) s m args below meth c H locs 0 0 (MQ below (x_Qc O K h' (some (.int r))) args s 0 0 (oA O)) (F0 m 12 ls []))  (ls : Array Slot) (H : Heap) (locs : List Loc) (h : XH) (v1 : Int32) (v2 : Int32) (v3 : Int32) (v4 : Int32) (s1 : Int32) (s2 : Int32) (hl : lv_has ls 9 [(0, .ref (oX O + 64)), (1, .int v1), (2, .int v2), (3, .int v3), (4, .int v4)]) (hR : x_R O K h H) (hS : va_S (oA O) s.heap H locs) (hf : f_X12_holdsLine_92 k12 (oX O) h v1 v2 v3 v4 s1 s2 = some (r, h')) : W p l e (x_rm 1 20) s m args below meth c H locs 0 0 (MQ below (x_Qc O K h' (some (.int r))) args s 0 0 (oA O)) (F0 m 92 ls [.int s2, .int s1, .ref (oX O + 70)]) := by
  have hx := C.1
  have hb := C.2.1
  rw [f_X12_holdsLine_92] at hf
  obtain ⟨g21, hf⟩ := x_gd hf
  obtain ⟨h22, eh22, hf⟩ := x_lt hf
  refine x_iast C hR hS (x_k1 (x_k hR 70 rfl)) (x_k2 (x_k hR 70 rfl) g21) dX12_holdsLine_92 (fun H locs hR hS => ?_)
  rw [← eh22] at hR
  refine lv_iinc (k := 3) (v := _ + 1) (lv' := [(3, _), (0, _), (1, _), (2, _), (4, _)]) hx hb dX12_holdsLine_93 hl rfl (x_inc 1 1 rfl _) (Nat.le_of_ble_eq_true rfl) rfl (fun ls hl => ?_)
  refine lv_goto (tgt := 264) hx hb dX12_holdsLine_96 rfl ?_
  exact B_X12_holdsLine_264  C hk12  ls _ _ h22 _ _ _ _  (lv_sub hl [1, 2, 3, 0, 4] rfl) hR hS hf
set_option maxRecDepth 20000 in
theorem B_X12_holdsLine_12 {p : Program} {l : Launch} {e : Env} {s : State} {m : MethodId} {args : Array Value} {below : List Frame} {meth : Method} {c : Code} {O : XO} {K : XK} {r : Int32} {h' : XH}   (C : x_C p s m args meth c O cX12_holdsLine 9 RX12 (some .boolean))   : ∀ (n : Nat) (ls : Array Slot) (H : Heap) (locs : List Loc) (h : XH) (v1 : Int32) (v2 : Int32) (v3 : Int32) (v4 : Int32) (hl : lv_has ls 9 [(0, .ref (oX O + 64)), (1, .int v1), (2, .int v2), (3, .int v3), (4, .int v4)]) (hR : x_R O K h H) (hS : va_S (oA O) s.heap H locs) (hf : f_X12_holdsLine_12 (oX O) n h v1 v2 v3 v4 = some (r, h')), W p l e (x_rm 1 20) s m args below meth c H locs 0 0 (MQ below (x_Qc O K h' (some (.int r))) args s 0 0 (oA O)) (F0 m 12 ls []) := by
  have hx := C.1
  have hb := C.2.1
  intro n
  induction n with
  | zero =>
    intro ls H locs h v1 v2 v3 v4 hl hR hS hf
    rw [f_X12_holdsLine_12] at hf
    cases hf
  | succ n ih =>
    intro ls H locs h v1 v2 v3 v4 hl hR hS hf
    rw [f_X12_holdsLine_12] at hf
    refine lv_iload hx hb dX12_holdsLine_12 (lv_at hl 4 rfl) ?_
    refine lv_aload_n hx hb dX12_holdsLine_14 rfl (lv_at hl 0 rfl) ?_
    refine gf_12_1 C hR (x_k hR 64 rfl) tw_1544 dX12_holdsLine_15 ?_
    refine lv_iload_n hx hb dX12_holdsLine_18 rfl (lv_at hl 2 rfl) ?_
    refine lv_iconst (v := 4) hx hb dX12_holdsLine_19 rfl ?_
    refine lv_iadd hx hb dX12_holdsLine_20 ?_
    obtain ⟨g3, hf⟩ := x_gd hf
    refine x_iald C hR (x_k1 (x_k hR 65 rfl)) (x_k2 (x_k hR 65 rfl) g3) dX12_holdsLine_21 ?_
    refine lv_icmp_ge (tgt := 270) hx hb dX12_holdsLine_22 rfl (fun hc => ?_) (fun hc => ?_)
    · have hf := x_ip hc hf
      refine lv_iload_n hx hb dX12_holdsLine_270 rfl (lv_at hl 3 rfl) ?_
      refine lv_if_eq (tgt := 284) hx hb dX12_holdsLine_271 rfl (fun hc => ?_) (fun hc => ?_)
      · have hf := x_ip hc hf
        exact B_X12_holdsLine_284  C   ls _ _ h  (lv_sub hl [] rfl) hR hS hf
      · have hf := x_in hc hf
        refine lv_aload_n hx hb dX12_holdsLine_274 rfl (lv_at hl 0 rfl) ?_
        refine gf_12_15 C hR (x_k hR 64 rfl) tw_1558 dX12_holdsLine_275 ?_
        refine lv_iconst (v := 0) hx hb dX12_holdsLine_278 rfl ?_
        obtain ⟨g4, hf⟩ := x_gd hf
        refine x_iald C hR (x_k1 (x_k hR 70 rfl)) (x_k2 (x_k hR 70 rfl) g4) dX12_holdsLine_279 ?_
        refine lv_iconst (v := 1) hx hb dX12_holdsLine_280 rfl ?_
        have kM5 : ∀ (ls : Array Slot) (H : Heap) (locs : List Loc), lv_has ls 9 [] → x_R O K h H → va_S (oA O) s.heap H locs → W p l e (x_rm 1 20) s m args below meth c H locs 0 0 (MQ below (x_Qc O K h' (some (.int r))) args s 0 0 (oA O)) (F0 m 289 ls [.int (if (h.1 (oX O + 70) (0 : Int32).toNatClampNeg) = 1 then 1 else 0)]) := by
          intro ls H locs hl hR hS
          cases hf
          exact x_zret C hR hS (by (repeat' split) <;> first | exact Or.inl rfl | exact Or.inr rfl) dX12_holdsLine_289
        refine lv_icmp_ne (tgt := 288) hx hb dX12_holdsLine_281 rfl (fun hc => ?_) (fun hc => ?_)
        · try simp only [if_neg hc] at kM5
          refine lv_iconst (v := 0) hx hb dX12_holdsLine_288 rfl ?_
          exact kM5 ls _ _ (lv_sub hl [] rfl) hR hS
        · try simp only [if_pos hc] at kM5
          refine lv_iconst (v := 1) hx hb dX12_holdsLine_284 rfl ?_
          refine lv_goto (tgt := 289) hx hb dX12_holdsLine_285 rfl ?_
          exact kM5 ls _ _ (lv_sub hl [] rfl) hR hS
    · have hf := x_in hc hf
      refine lv_aload_n hx hb dX12_holdsLine_25 rfl (lv_at hl 0 rfl) ?_
      refine gf_12_1 C hR (x_k hR 64 rfl) tw_1544 dX12_holdsLine_26 ?_
      refine lv_iload_n hx hb dX12_holdsLine_29 rfl (lv_at hl 1 rfl) ?_
      refine x_cSi1 C hR hS (S_X12_textAt  rfl) mf_X12_textAt tw_1667 (Nat.le_of_ble_eq_true rfl) (Nat.le_of_ble_eq_true rfl) hl.1 (Nat.le_of_ble_eq_true rfl) dX12_holdsLine_30 ⟨Nat.le_refl _, Nat.le_refl _⟩ (fun H locs hR hS => ?_)
      refine lv_bipush (v := 51) hx hb dX12_holdsLine_33 rfl ?_
      refine lv_iadd hx hb dX12_holdsLine_35 ?_
      refine lv_iconst (v := 2) hx hb dX12_holdsLine_36 rfl ?_
      refine lv_iload hx hb dX12_holdsLine_37 (lv_at hl 4 rfl) ?_
      refine lv_imul hx hb dX12_holdsLine_39 ?_
      refine lv_iadd hx hb dX12_holdsLine_40 ?_
      obtain ⟨g6, hf⟩ := x_gd hf
      refine x_iald C hR (x_k1 (x_k hR 65 rfl)) (x_k2 (x_k hR 65 rfl) g6) dX12_holdsLine_41 ?_
      obtain ⟨t7, et7, hf⟩ := x_lt hf
      refine x_nmi et7 ?_
      refine lv_istore (lv' := [(5, _), (0, _), (1, _), (2, _), (3, _), (4, _)]) hx hb dX12_holdsLine_42 hl (Nat.le_of_ble_eq_true rfl) rfl (fun ls hl => ?_)
      refine lv_iload hx hb dX12_holdsLine_44 (lv_at hl 0 rfl) ?_
      refine lv_bipush (v := 10) hx hb dX12_holdsLine_46 rfl ?_
      refine lv_icmp_gt (tgt := 99) hx hb dX12_holdsLine_48 rfl (fun hc => ?_) (fun hc => ?_)
      · have hf := x_ip hc hf
        refine lv_iload hx hb dX12_holdsLine_99 (lv_at hl 0 rfl) ?_
        refine lv_bipush (v := 14) hx hb dX12_holdsLine_101 rfl ?_
        refine lv_icmp_ne (tgt := 127) hx hb dX12_holdsLine_103 rfl (fun hc => ?_) (fun hc => ?_)
        · have hf := x_in hc hf
          refine lv_iinc (k := 4) (v := _ + (-1)) (lv' := [(3, _), (5, _), (0, _), (1, _), (2, _), (4, _)]) hx hb dX12_holdsLine_127 hl rfl (x_inc (-1) (-1) rfl _) (Nat.le_of_ble_eq_true rfl) rfl (fun ls hl => ?_)
          refine lv_aload_n hx hb dX12_holdsLine_130 rfl (lv_at hl 2 rfl) ?_
          refine gf_12_15 C hR (x_k hR 64 rfl) tw_1558 dX12_holdsLine_131 ?_
          refine lv_iload_n hx hb dX12_holdsLine_134 rfl (lv_at hl 0 rfl) ?_
          refine lv_iconst (v := 1) hx hb dX12_holdsLine_135 rfl ?_
          refine lv_isub hx hb dX12_holdsLine_136 ?_
          obtain ⟨g8, hf⟩ := x_gd hf
          refine x_iald C hR (x_k1 (x_k hR 70 rfl)) (x_k2 (x_k hR 70 rfl) g8) dX12_holdsLine_137 ?_
          obtain ⟨t9, et9, hf⟩ := x_lt hf
          refine x_nmi et9 ?_
          refine lv_istore (lv' := [(6, _), (3, _), (5, _), (0, _), (1, _), (2, _), (4, _)]) hx hb dX12_holdsLine_138 hl (Nat.le_of_ble_eq_true rfl) rfl (fun ls hl => ?_)
          refine lv_aload_n hx hb dX12_holdsLine_140 rfl (lv_at hl 3 rfl) ?_
          refine gf_12_15 C hR (x_k hR 64 rfl) tw_1558 dX12_holdsLine_141 ?_
          refine lv_iload_n hx hb dX12_holdsLine_144 rfl (lv_at hl 1 rfl) ?_
          obtain ⟨g10, hf⟩ := x_gd hf
          refine x_iald C hR (x_k1 (x_k hR 70 rfl)) (x_k2 (x_k hR 70 rfl) g10) dX12_holdsLine_145 ?_
          obtain ⟨t11, et11, hf⟩ := x_lt hf
          refine x_nmi et11 ?_
          refine lv_istore (lv' := [(7, _), (6, _), (3, _), (5, _), (0, _), (1, _), (2, _), (4, _)]) hx hb dX12_holdsLine_146 hl (Nat.le_of_ble_eq_true rfl) rfl (fun ls hl => ?_)
          refine lv_iload hx hb dX12_holdsLine_148 (lv_at hl 3 rfl) ?_
          refine lv_bipush (v := 12) hx hb dX12_holdsLine_150 rfl ?_
          have kM12 : ∀ (ls : Array Slot) (H : Heap) (locs : List Loc), lv_has ls 9 [(0, .ref (oX O + 64)), (1, .int v1), (2, .int v2), (3, .int (v3 + (-1))), (4, .int v4), (5, .int t7), (6, .int t9), (7, .int t11)] → x_R O K h H → va_S (oA O) s.heap H locs → W p l e (x_rm 1 20) s m args below meth c H locs 0 0 (MQ below (x_Qc O K h' (some (.int r))) args s 0 0 (oA O)) (F0 m 229 ls [.int (if t7 = 12 then (if t11 ≤ t9 then 0 else 1) else (if t7 = 13 then (if t9 ≤ t11 then 0 else 1) else (if t7 = 15 then (if (t9 + t11) = 2 then 1 else 0) else (if (t9 + t11) ≤ 0 then 0 else 1))))]) := by
            intro ls H locs hl hR hS
            obtain ⟨t13, et13, hf⟩ := x_lt hf
            refine x_nmi et13 ?_
            refine lv_istore (lv' := [(8, _), (0, _), (1, _), (2, _), (3, _), (4, _), (5, _), (6, _), (7, _)]) hx hb dX12_holdsLine_229 hl (Nat.le_of_ble_eq_true rfl) rfl (fun ls hl => ?_)
            refine lv_aload_n hx hb dX12_holdsLine_231 rfl (lv_at hl 1 rfl) ?_
            refine gf_12_15 C hR (x_k hR 64 rfl) tw_1558 dX12_holdsLine_232 ?_
            refine lv_iload_n hx hb dX12_holdsLine_235 rfl (lv_at hl 4 rfl) ?_
            refine lv_iconst (v := 1) hx hb dX12_holdsLine_236 rfl ?_
            refine lv_isub hx hb dX12_holdsLine_237 ?_
            refine lv_iload hx hb dX12_holdsLine_238 (lv_at hl 6 rfl) ?_
            refine lv_bipush (v := 11) hx hb dX12_holdsLine_240 rfl ?_
            have kM14 : ∀ (ls : Array Slot) (H : Heap) (locs : List Loc), lv_has ls 9 [(0, .ref (oX O + 64)), (1, .int v1), (2, .int v2), (3, .int (v3 + (-1))), (4, .int v4)] → x_R O K h H → va_S (oA O) s.heap H locs → W p l e (x_rm 1 20) s m args below meth c H locs 0 0 (MQ below (x_Qc O K h' (some (.int r))) args s 0 0 (oA O)) (F0 m 263 ls [.int (if t7 = 11 then (t9 + t11) else (if t13 = 0 then 0 else 1)), .int ((v3 + (-1)) - 1), .ref (oX O + 70)]) := by
              intro ls H locs hl hR hS
              obtain ⟨g15, hf⟩ := x_gd hf
              obtain ⟨h16, eh16, hf⟩ := x_lt hf
              refine x_iast C hR hS (x_k1 (x_k hR 70 rfl)) (x_k2 (x_k hR 70 rfl) g15) dX12_holdsLine_263 (fun H locs hR hS => ?_)
              rw [← eh16] at hR
              exact B_X12_holdsLine_264  C ih  ls _ _ h16 _ _ _ _  (lv_sub hl [0, 1, 2, 3, 4] rfl) hR hS hf
            refine lv_icmp_ne (tgt := 253) hx hb dX12_holdsLine_242 rfl (fun hc => ?_) (fun hc => ?_)
            · try simp only [if_neg hc] at kM14
              refine lv_iload hx hb dX12_holdsLine_253 (lv_at hl 0 rfl) ?_
              refine lv_if_eq (tgt := 262) hx hb dX12_holdsLine_255 rfl (fun hc => ?_) (fun hc => ?_)
              · try simp only [if_pos hc] at kM14
                refine lv_iconst (v := 0) hx hb dX12_holdsLine_262 rfl ?_
                exact kM14 ls _ _ (lv_sub hl [1, 2, 3, 4, 5] rfl) hR hS
              · try simp only [if_neg hc] at kM14
                refine lv_iconst (v := 1) hx hb dX12_holdsLine_258 rfl ?_
                refine lv_goto (tgt := 263) hx hb dX12_holdsLine_259 rfl ?_
                exact kM14 ls _ _ (lv_sub hl [1, 2, 3, 4, 5] rfl) hR hS
            · try simp only [if_pos hc] at kM14
              refine lv_iload hx hb dX12_holdsLine_245 (lv_at hl 7 rfl) ?_
              refine lv_iload hx hb dX12_holdsLine_247 (lv_at hl 8 rfl) ?_
              refine lv_iadd hx hb dX12_holdsLine_249 ?_
              refine lv_goto (tgt := 263) hx hb dX12_holdsLine_250 rfl ?_
              exact kM14 ls _ _ (lv_sub hl [1, 2, 3, 4, 5] rfl) hR hS
          refine lv_icmp_ne (tgt := 170) hx hb dX12_holdsLine_152 rfl (fun hc => ?_) (fun hc => ?_)
          · try simp only [if_neg hc] at kM12
            refine lv_iload hx hb dX12_holdsLine_170 (lv_at hl 3 rfl) ?_
            refine lv_bipush (v := 13) hx hb dX12_holdsLine_172 rfl ?_
            refine lv_icmp_ne (tgt := 192) hx hb dX12_holdsLine_174 rfl (fun hc => ?_) (fun hc => ?_)
            · try simp only [if_neg hc] at kM12
              refine lv_iload hx hb dX12_holdsLine_192 (lv_at hl 3 rfl) ?_
              refine lv_bipush (v := 15) hx hb dX12_holdsLine_194 rfl ?_
              refine lv_icmp_ne (tgt := 216) hx hb dX12_holdsLine_196 rfl (fun hc => ?_) (fun hc => ?_)
              · try simp only [if_neg hc] at kM12
                refine lv_iload hx hb dX12_holdsLine_216 (lv_at hl 1 rfl) ?_
                refine lv_iload hx hb dX12_holdsLine_218 (lv_at hl 0 rfl) ?_
                refine lv_iadd hx hb dX12_holdsLine_220 ?_
                refine lv_if_le (tgt := 228) hx hb dX12_holdsLine_221 rfl (fun hc => ?_) (fun hc => ?_)
                · try simp only [if_pos hc] at kM12
                  refine lv_iconst (v := 0) hx hb dX12_holdsLine_228 rfl ?_
                  exact kM12 ls _ _ (lv_sub hl [4, 5, 6, 2, 7, 3, 1, 0] rfl) hR hS
                · try simp only [if_neg hc] at kM12
                  refine lv_iconst (v := 1) hx hb dX12_holdsLine_224 rfl ?_
                  refine lv_goto (tgt := 229) hx hb dX12_holdsLine_225 rfl ?_
                  exact kM12 ls _ _ (lv_sub hl [4, 5, 6, 2, 7, 3, 1, 0] rfl) hR hS
              · try simp only [if_pos hc] at kM12
                refine lv_iload hx hb dX12_holdsLine_199 (lv_at hl 1 rfl) ?_
                refine lv_iload hx hb dX12_holdsLine_201 (lv_at hl 0 rfl) ?_
                refine lv_iadd hx hb dX12_holdsLine_203 ?_
                refine lv_iconst (v := 2) hx hb dX12_holdsLine_204 rfl ?_
                refine lv_icmp_ne (tgt := 212) hx hb dX12_holdsLine_205 rfl (fun hc => ?_) (fun hc => ?_)
                · try simp only [if_neg hc] at kM12
                  refine lv_iconst (v := 0) hx hb dX12_holdsLine_212 rfl ?_
                  refine lv_goto (tgt := 229) hx hb dX12_holdsLine_213 rfl ?_
                  exact kM12 ls _ _ (lv_sub hl [4, 5, 6, 2, 7, 3, 1, 0] rfl) hR hS
                · try simp only [if_pos hc] at kM12
                  refine lv_iconst (v := 1) hx hb dX12_holdsLine_208 rfl ?_
                  refine lv_goto (tgt := 229) hx hb dX12_holdsLine_209 rfl ?_
                  exact kM12 ls _ _ (lv_sub hl [4, 5, 6, 2, 7, 3, 1, 0] rfl) hR hS
            · try simp only [if_pos hc] at kM12
              refine lv_iload hx hb dX12_holdsLine_177 (lv_at hl 1 rfl) ?_
              refine lv_iload hx hb dX12_holdsLine_179 (lv_at hl 0 rfl) ?_
              refine lv_icmp_le (tgt := 188) hx hb dX12_holdsLine_181 rfl (fun hc => ?_) (fun hc => ?_)
              · try simp only [if_pos hc] at kM12
                refine lv_iconst (v := 0) hx hb dX12_holdsLine_188 rfl ?_
                refine lv_goto (tgt := 229) hx hb dX12_holdsLine_189 rfl ?_
                exact kM12 ls _ _ (lv_sub hl [4, 5, 6, 2, 7, 3, 1, 0] rfl) hR hS
              · try simp only [if_neg hc] at kM12
                refine lv_iconst (v := 1) hx hb dX12_holdsLine_184 rfl ?_
                refine lv_goto (tgt := 229) hx hb dX12_holdsLine_185 rfl ?_
                exact kM12 ls _ _ (lv_sub hl [4, 5, 6, 2, 7, 3, 1, 0] rfl) hR hS
          · try simp only [if_pos hc] at kM12
            refine lv_iload hx hb dX12_holdsLine_155 (lv_at hl 1 rfl) ?_
            refine lv_iload hx hb dX12_holdsLine_157 (lv_at hl 0 rfl) ?_
            refine lv_icmp_ge (tgt := 166) hx hb dX12_holdsLine_159 rfl (fun hc => ?_) (fun hc => ?_)
            · try simp only [if_pos hc] at kM12
              refine lv_iconst (v := 0) hx hb dX12_holdsLine_166 rfl ?_
              refine lv_goto (tgt := 229) hx hb dX12_holdsLine_167 rfl ?_
              exact kM12 ls _ _ (lv_sub hl [4, 5, 6, 2, 7, 3, 1, 0] rfl) hR hS
            · try simp only [if_neg hc] at kM12
              refine lv_iconst (v := 1) hx hb dX12_holdsLine_162 rfl ?_
              refine lv_goto (tgt := 229) hx hb dX12_holdsLine_163 rfl ?_
              exact kM12 ls _ _ (lv_sub hl [4, 5, 6, 2, 7, 3, 1, 0] rfl) hR hS
        · have hf := x_ip hc hf
          refine lv_aload_n hx hb dX12_holdsLine_106 rfl (lv_at hl 1 rfl) ?_
          refine gf_12_15 C hR (x_k hR 64 rfl) tw_1558 dX12_holdsLine_107 ?_
          refine lv_iload_n hx hb dX12_holdsLine_110 rfl (lv_at hl 4 rfl) ?_
          refine lv_iconst (v := 1) hx hb dX12_holdsLine_111 rfl ?_
          refine lv_isub hx hb dX12_holdsLine_112 ?_
          refine lv_iconst (v := 1) hx hb dX12_holdsLine_113 rfl ?_
          refine lv_aload_n hx hb dX12_holdsLine_114 rfl (lv_at hl 1 rfl) ?_
          refine gf_12_15 C hR (x_k hR 64 rfl) tw_1558 dX12_holdsLine_115 ?_
          refine lv_iload_n hx hb dX12_holdsLine_118 rfl (lv_at hl 4 rfl) ?_
          refine lv_iconst (v := 1) hx hb dX12_holdsLine_119 rfl ?_
          refine lv_isub hx hb dX12_holdsLine_120 ?_
          obtain ⟨g17, hf⟩ := x_gd hf
          refine x_iald C hR (x_k1 (x_k hR 70 rfl)) (x_k2 (x_k hR 70 rfl) g17) dX12_holdsLine_121 ?_
          refine lv_isub hx hb dX12_holdsLine_122 ?_
          obtain ⟨g18, hf⟩ := x_gd hf
          obtain ⟨h19, eh19, hf⟩ := x_lt hf
          refine x_iast C hR hS (x_k1 (x_k hR 70 rfl)) (x_k2 (x_k hR 70 rfl) g18) dX12_holdsLine_123 (fun H locs hR hS => ?_)
          rw [← eh19] at hR
          refine lv_goto (tgt := 264) hx hb dX12_holdsLine_124 rfl ?_
          exact B_X12_holdsLine_264  C ih  ls _ _ h19 _ _ _ _  (lv_sub hl [1, 2, 3, 4, 5] rfl) hR hS hf
      · have hf := x_in hc hf
        refine lv_aload_n hx hb dX12_holdsLine_51 rfl (lv_at hl 1 rfl) ?_
        refine gf_12_15 C hR (x_k hR 64 rfl) tw_1558 dX12_holdsLine_52 ?_
        refine lv_iload_n hx hb dX12_holdsLine_55 rfl (lv_at hl 4 rfl) ?_
        refine lv_iload hx hb dX12_holdsLine_56 (lv_at hl 0 rfl) ?_
        refine lv_bipush (v := 10) hx hb dX12_holdsLine_58 rfl ?_
        refine lv_icmp_ne (tgt := 85) hx hb dX12_holdsLine_60 rfl (fun hc => ?_) (fun hc => ?_)
        · have hf := x_in hc hf
          refine lv_aload_n hx hb dX12_holdsLine_85 rfl (lv_at hl 1 rfl) ?_
          refine gf_12_14 C hR (x_k hR 64 rfl) tw_1557 dX12_holdsLine_86 ?_
          refine lv_iload hx hb dX12_holdsLine_89 (lv_at hl 0 rfl) ?_
          obtain ⟨g20, hf⟩ := x_gd hf
          refine x_iald C hR (x_k1 (x_k hR 69 rfl)) (x_k2 (x_k hR 69 rfl) g20) dX12_holdsLine_91 ?_
          exact B_X12_holdsLine_92  C ih  ls _ _ h _ _ _ _ _ _  (lv_sub hl [1, 2, 3, 4, 5] rfl) hR hS hf
        · have hf := x_ip hc hf
          refine lv_aload_n hx hb dX12_holdsLine_63 rfl (lv_at hl 1 rfl) ?_
          refine gf_12_1 C hR (x_k hR 64 rfl) tw_1544 dX12_holdsLine_64 ?_
          refine lv_iload_n hx hb dX12_holdsLine_67 rfl (lv_at hl 2 rfl) ?_
          refine x_cSi1 C hR hS (S_X12_textAt  rfl) mf_X12_textAt tw_1667 (Nat.le_of_ble_eq_true rfl) (Nat.le_of_ble_eq_true rfl) hl.1 (Nat.le_of_ble_eq_true rfl) dX12_holdsLine_68 ⟨Nat.le_refl _, Nat.le_refl _⟩ (fun H locs hR hS => ?_)
          refine lv_bipush (v := 51) hx hb dX12_holdsLine_71 rfl ?_
          refine lv_iadd hx hb dX12_holdsLine_73 ?_
          refine lv_iconst (v := 2) hx hb dX12_holdsLine_74 rfl ?_
          refine lv_iload hx hb dX12_holdsLine_75 (lv_at hl 5 rfl) ?_
          refine lv_imul hx hb dX12_holdsLine_77 ?_
          refine lv_iadd hx hb dX12_holdsLine_78 ?_
          refine lv_iconst (v := 1) hx hb dX12_holdsLine_79 rfl ?_
          refine lv_iadd hx hb dX12_holdsLine_80 ?_
          obtain ⟨g23, hf⟩ := x_gd hf
          refine x_iald C hR (x_k1 (x_k hR 65 rfl)) (x_k2 (x_k hR 65 rfl) g23) dX12_holdsLine_81 ?_
          refine lv_goto (tgt := 92) hx hb dX12_holdsLine_82 rfl ?_
          exact B_X12_holdsLine_92  C ih  ls _ _ h _ _ _ _ _ _  (lv_sub hl [1, 2, 3, 4, 5] rfl) hR hS hf
set_option maxRecDepth 20000 in
theorem S_X12_holdsLine {l : Launch} {O : XO} {K : XK} {h : XH} {v1 : Int32} {v2 : Int32}  {r : Int32} {h' : XH}  (hf : f_X12_holdsLine (oX O) h v1 v2 = some (r, h')) : x_M l O K yX12_holdsLine cX12_holdsLine 9 (some .boolean) 1 20 h [.ref (oX O + 64), .int v1, .int v2] (some (.int r)) h' := by
  refine x_enter (by decide) (Nat.le_of_ble_eq_true rfl) (fun p e s m args below meth c C hR ls hl => ?_)
  have hS : va_S (oA O) s.heap s.heap [] := va_S.rf
  have hx := C.1
  have hb := C.2.1
  have hl : lv_has ls 9 [(0, .ref (oX O + 64)), (1, .int v1), (2, .int v2)] := hl
  rw [f_X12_holdsLine] at hf
  refine lv_iconst (v := 0) hx hb dX12_holdsLine_0 rfl ?_
  refine lv_istore_n (lv' := [(3, _), (0, _), (1, _), (2, _)]) hx hb dX12_holdsLine_1 rfl hl (Nat.le_of_ble_eq_true rfl) rfl (fun ls hl => ?_)
  refine lv_aload_n hx hb dX12_holdsLine_2 rfl (lv_at hl 1 rfl) ?_
  refine gf_12_1 C hR (x_k hR 64 rfl) tw_1544 dX12_holdsLine_3 ?_
  refine lv_iload_n hx hb dX12_holdsLine_6 rfl (lv_at hl 3 rfl) ?_
  refine lv_iconst (v := 3) hx hb dX12_holdsLine_7 rfl ?_
  refine lv_iadd hx hb dX12_holdsLine_8 ?_
  obtain ⟨g1, hf⟩ := x_gd hf
  refine x_iald C hR (x_k1 (x_k hR 65 rfl)) (x_k2 (x_k hR 65 rfl) g1) dX12_holdsLine_9 ?_
  obtain ⟨t2, et2, hf⟩ := x_lt hf
  refine x_nmi et2 ?_
  refine lv_istore (lv' := [(4, _), (3, _), (0, _), (1, _), (2, _)]) hx hb dX12_holdsLine_10 hl (Nat.le_of_ble_eq_true rfl) rfl (fun ls hl => ?_)
  exact B_X12_holdsLine_12  C  x_FU ls _ _ h _ _ _ _  (lv_sub hl [2, 3, 4, 1, 0] rfl) hR hS hf
def f_X12_told_100 (k4 : XH → Int32 → Int32 → Int32 → Option (Int32 × XH)) (x : Nat) (h : XH) (v1 : Int32) (v2 : Int32) (v3 : Int32) : Option (Int32 × XH) := k4 h v1 v2 (v3 + 1)
def f_X12_told_76 (k4 : XH → Int32 → Int32 → Int32 → Option (Int32 × XH)) (x : Nat) (h : XH) (v1 : Int32) (v2 : Int32) (v3 : Int32) (v4 : Int32) (s0 : Int32) (s1 : Int32) : Option (Int32 × XH) := if x_b v4 6927 = true then x_let ((v2 + (if (h.1 (x + 65) v4.toNatClampNeg) = 0 then (s0 * s1) else (-(s0 * s1)))) : Int32) (fun t9 => f_X12_told_100 k4 x h v1 t9 v3) else none
def f_X12_told_4 (x : Nat) : Nat → XH → Int32 → Int32 → Int32 → Option (Int32 × XH)
  | 0, _, _, _, _ => none
  | n + 1, h, v1, v2, v3 => if x_b (f_X12_textAt h v1) 6927 = true then if (h.1 (x + 65) (f_X12_textAt h v1).toNatClampNeg) ≤ v3 then some (v2, h) else Option.bind (f_X12_holdsLine x h v1 (f_X12_lineAt h v1 v3)) (fun q2 => if q2.1 = 0 then f_X12_told_100 (f_X12_told_4 x n) x q2.2 v1 v2 v3 else if x_b ((f_X12_lineAt h v1 v3) + 1) 6927 = true then if x_b ((f_X12_lineAt h v1 v3) + 2) 6927 = true then if 0 ≤ (q2.2.1 (x + 65) ((f_X12_lineAt h v1 v3) + 2).toNatClampNeg) then if x_b ((f_X12_lineAt h v1 v3) + 2) 6927 = true then if x_b (q2.2.1 (x + 65) ((f_X12_lineAt h v1 v3) + 2).toNatClampNeg) 10 = true then f_X12_told_76 (f_X12_told_4 x n) x q2.2 v1 v2 v3 (f_X12_lineAt h v1 v3) (q2.2.1 (x + 65) ((f_X12_lineAt h v1 v3) + 1).toNatClampNeg) (q2.2.1 (x + 69) (q2.2.1 (x + 65) ((f_X12_lineAt h v1 v3) + 2).toNatClampNeg).toNatClampNeg) else none else none else f_X12_told_76 (f_X12_told_4 x n) x q2.2 v1 v2 v3 (f_X12_lineAt h v1 v3) (q2.2.1 (x + 65) ((f_X12_lineAt h v1 v3) + 1).toNatClampNeg) 1 else none else none) else none
def f_X12_told (x : Nat) (h : XH) (v1 : Int32) : Option (Int32 × XH) := f_X12_told_4 x x_FU h v1 0 0
set_option maxRecDepth 20000 in
theorem B_X12_told_100 {p : Program} {l : Launch} {e : Env} {s : State} {m : MethodId} {args : Array Value} {below : List Frame} {meth : Method} {c : Code} {O : XO} {K : XK} {r : Int32} {h' : XH}  {k4 : XH → Int32 → Int32 → Int32 → Option (Int32 × XH)} (C : x_C p s m args meth c O cX12_told 6 RX12 (some .int)) (hk4 : ∀ (ls : Array Slot) (H : Heap) (locs : List Loc) (h : XH) (v1 : Int32) (v2 : Int32) (v3 : Int32), lv_has ls 6 [(0, .ref (oX O + 64)), (1, .int v1), (2, .int v2), (3, .int v3)] → x_R O K h H → va_S (oA O) s.heap H locs → k4 h v1 v2 v3 = some (r, h') → W p l e (x_rm 2 48) s m args below meth c H locs 0 0 (MQ below (x_Qc O K h' (some (.int r))) args s 0 0 (oA O)) (F0 m 4 ls []))  (ls : Array Slot) (H : Heap) (locs : List Loc) (h : XH) (v1 : Int32) (v2 : Int32) (v3 : Int32) (hl : lv_has ls 6 [(0, .ref (oX O + 64)), (1, .int v1), (2, .int v2), (3, .int v3)]) (hR : x_R O K h H) (hS : va_S (oA O) s.heap H locs) (hf : f_X12_told_100 k4 (oX O) h v1 v2 v3 = some (r, h')) : W p l e (x_rm 2 48) s m args below meth c H locs 0 0 (MQ below (x_Qc O K h' (some (.int r))) args s 0 0 (oA O)) (F0 m 100 ls []) := by
  have hx := C.1
  have hb := C.2.1
  rw [f_X12_told_100] at hf
  refine lv_iinc (k := 3) (v := _ + 1) (lv' := [(3, _), (0, _), (1, _), (2, _)]) hx hb dX12_told_100 hl rfl (x_inc 1 1 rfl _) (Nat.le_of_ble_eq_true rfl) rfl (fun ls hl => ?_)
  refine lv_goto (tgt := 4) hx hb dX12_told_103 rfl ?_
  exact hk4 ls _ _ h _ _ _  (lv_sub hl [1, 2, 3, 0] rfl) hR hS hf
set_option maxRecDepth 20000 in
theorem B_X12_told_76 {p : Program} {l : Launch} {e : Env} {s : State} {m : MethodId} {args : Array Value} {below : List Frame} {meth : Method} {c : Code} {O : XO} {K : XK} {r : Int32} {h' : XH}  {k4 : XH → Int32 → Int32 → Int32 → Option (Int32 × XH)} (C : x_C p s m args meth c O cX12_told 6 RX12 (some .int)) (hk4 : ∀ (ls : Array Slot) (H : Heap) (locs : List Loc) (h : XH) (v1 : Int32) (v2 : Int32) (v3 : Int32), lv_has ls 6 [(0, .ref (oX O + 64)), (1, .int v1), (2, .int v2), (3, .int v3)] → x_R O K h H → va_S (oA O) s.heap H locs → k4 h v1 v2 v3 = some (r, h') → W p l e (x_rm 2 48) s m args below meth c H locs 0 0 (MQ below (x_Qc O K h' (some (.int r))) args s 0 0 (oA O)) (F0 m 4 ls []))  (ls : Array Slot) (H : Heap) (locs : List Loc) (h : XH) (v1 : Int32) (v2 : Int32) (v3 : Int32) (v4 : Int32) (s0 : Int32) (s1 : Int32) (hl : lv_has ls 6 [(0, .ref (oX O + 64)), (1, .int v1), (2, .int v2), (3, .int v3), (4, .int v4)]) (hR : x_R O K h H) (hS : va_S (oA O) s.heap H locs) (hf : f_X12_told_76 k4 (oX O) h v1 v2 v3 v4 s0 s1 = some (r, h')) : W p l e (x_rm 2 48) s m args below meth c H locs 0 0 (MQ below (x_Qc O K h' (some (.int r))) args s 0 0 (oA O)) (F0 m 76 ls [.int s1, .int s0]) := by
  have hx := C.1
  have hb := C.2.1
  rw [f_X12_told_76] at hf
  refine lv_imul hx hb dX12_told_76 ?_
  refine lv_istore (lv' := [(5, _), (0, _), (1, _), (2, _), (3, _), (4, _)]) hx hb dX12_told_77 hl (Nat.le_of_ble_eq_true rfl) rfl (fun ls hl => ?_)
  refine lv_iload_n hx hb dX12_told_79 rfl (lv_at hl 3 rfl) ?_
  refine lv_aload_n hx hb dX12_told_80 rfl (lv_at hl 1 rfl) ?_
  refine gf_12_1 C hR (x_k hR 64 rfl) tw_1544 dX12_told_81 ?_
  refine lv_iload hx hb dX12_told_84 (lv_at hl 5 rfl) ?_
  obtain ⟨g7, hf⟩ := x_gd hf
  refine x_iald C hR (x_k1 (x_k hR 65 rfl)) (x_k2 (x_k hR 65 rfl) g7) dX12_told_86 ?_
  have kM8 : ∀ (ls : Array Slot) (H : Heap) (locs : List Loc), lv_has ls 6 [(0, .ref (oX O + 64)), (1, .int v1), (3, .int v3)] → x_R O K h H → va_S (oA O) s.heap H locs → W p l e (x_rm 2 48) s m args below meth c H locs 0 0 (MQ below (x_Qc O K h' (some (.int r))) args s 0 0 (oA O)) (F0 m 98 ls [.int (if (h.1 (oX O + 65) v4.toNatClampNeg) = 0 then (s0 * s1) else (-(s0 * s1))), .int v2]) := by
    intro ls H locs hl hR hS
    refine lv_iadd hx hb dX12_told_98 ?_
    obtain ⟨t9, et9, hf⟩ := x_lt hf
    refine x_nmi et9 ?_
    refine lv_istore_n (lv' := [(2, _), (0, _), (1, _), (3, _)]) hx hb dX12_told_99 rfl hl (Nat.le_of_ble_eq_true rfl) rfl (fun ls hl => ?_)
    exact B_X12_told_100  C hk4  ls _ _ h _ _ _  (lv_sub hl [1, 2, 0, 3] rfl) hR hS hf
  refine lv_if_ne (tgt := 95) hx hb dX12_told_87 rfl (fun hc => ?_) (fun hc => ?_)
  · try simp only [if_neg hc] at kM8
    refine lv_iload hx hb dX12_told_95 (lv_at hl 0 rfl) ?_
    refine lv_ineg hx hb dX12_told_97 ?_
    exact kM8 ls _ _ (lv_sub hl [1, 2, 4] rfl) hR hS
  · try simp only [if_pos hc] at kM8
    refine lv_iload hx hb dX12_told_90 (lv_at hl 0 rfl) ?_
    refine lv_goto (tgt := 98) hx hb dX12_told_92 rfl ?_
    exact kM8 ls _ _ (lv_sub hl [1, 2, 4] rfl) hR hS
set_option maxRecDepth 20000 in
theorem B_X12_told_4 {p : Program} {l : Launch} {e : Env} {s : State} {m : MethodId} {args : Array Value} {below : List Frame} {meth : Method} {c : Code} {O : XO} {K : XK} {r : Int32} {h' : XH}   (C : x_C p s m args meth c O cX12_told 6 RX12 (some .int))   : ∀ (n : Nat) (ls : Array Slot) (H : Heap) (locs : List Loc) (h : XH) (v1 : Int32) (v2 : Int32) (v3 : Int32) (hl : lv_has ls 6 [(0, .ref (oX O + 64)), (1, .int v1), (2, .int v2), (3, .int v3)]) (hR : x_R O K h H) (hS : va_S (oA O) s.heap H locs) (hf : f_X12_told_4 (oX O) n h v1 v2 v3 = some (r, h')), W p l e (x_rm 2 48) s m args below meth c H locs 0 0 (MQ below (x_Qc O K h' (some (.int r))) args s 0 0 (oA O)) (F0 m 4 ls []) := by
  have hx := C.1
  have hb := C.2.1
  intro n
  induction n with
  | zero =>
    intro ls H locs h v1 v2 v3 hl hR hS hf
    rw [f_X12_told_4] at hf
    cases hf
  | succ n ih =>
    intro ls H locs h v1 v2 v3 hl hR hS hf
    rw [f_X12_told_4] at hf
    refine lv_iload_n hx hb dX12_told_4 rfl (lv_at hl 3 rfl) ?_
    refine lv_aload_n hx hb dX12_told_5 rfl (lv_at hl 0 rfl) ?_
    refine gf_12_1 C hR (x_k hR 64 rfl) tw_1544 dX12_told_6 ?_
    refine lv_iload_n hx hb dX12_told_9 rfl (lv_at hl 1 rfl) ?_
    refine x_cSi1 C hR hS (S_X12_textAt  rfl) mf_X12_textAt tw_1667 (Nat.le_of_ble_eq_true rfl) (Nat.le_of_ble_eq_true rfl) hl.1 (Nat.le_of_ble_eq_true rfl) dX12_told_10 ⟨Nat.le_refl _, Nat.le_refl _⟩ (fun H locs hR hS => ?_)
    obtain ⟨g1, hf⟩ := x_gd hf
    refine x_iald C hR (x_k1 (x_k hR 65 rfl)) (x_k2 (x_k hR 65 rfl) g1) dX12_told_13 ?_
    refine lv_icmp_ge (tgt := 106) hx hb dX12_told_14 rfl (fun hc => ?_) (fun hc => ?_)
    · have hf := x_ip hc hf
      refine lv_iload_n hx hb dX12_told_106 rfl (lv_at hl 2 rfl) ?_
      cases hf
      exact x_iret C hR hS dX12_told_107
    · have hf := x_in hc hf
      refine lv_iload_n hx hb dX12_told_17 rfl (lv_at hl 1 rfl) ?_
      refine lv_iload_n hx hb dX12_told_18 rfl (lv_at hl 3 rfl) ?_
      refine x_cSi2 C hR hS (S_X12_lineAt  rfl) mf_X12_lineAt tw_1664 (Nat.le_of_ble_eq_true rfl) (Nat.le_of_ble_eq_true rfl) hl.1 (Nat.le_of_ble_eq_true rfl) dX12_told_19 ⟨Nat.le_refl _, Nat.le_refl _⟩ (fun H locs hR hS => ?_)
      refine lv_istore (lv' := [(4, _), (0, _), (1, _), (2, _), (3, _)]) hx hb dX12_told_22 hl (Nat.le_of_ble_eq_true rfl) rfl (fun ls hl => ?_)
      refine lv_aload_n hx hb dX12_told_24 rfl (lv_at hl 1 rfl) ?_
      refine lv_iload_n hx hb dX12_told_25 rfl (lv_at hl 2 rfl) ?_
      refine lv_iload hx hb dX12_told_26 (lv_at hl 0 rfl) ?_
      obtain ⟨q2, eq2, hf⟩ := x_bd hf
      refine x_cVi2 C hR hS (S_X12_holdsLine  eq2) (x_k hR 64 rfl) (by decide) rfl mf_X12_holdsLine tw_1897 (Nat.le_of_ble_eq_true rfl) (Nat.le_of_ble_eq_true rfl) hl.1 (Nat.le_of_ble_eq_true rfl) dX12_told_28 ⟨Nat.le_refl _, Nat.le_refl _⟩ (fun H locs hR hS => ?_)
      refine lv_if_ne (tgt := 37) hx hb dX12_told_31 rfl (fun hc => ?_) (fun hc => ?_)
      · have hf := x_in hc hf
        refine lv_aload_n hx hb dX12_told_37 rfl (lv_at hl 1 rfl) ?_
        refine gf_12_1 C hR (x_k hR 64 rfl) tw_1544 dX12_told_38 ?_
        refine lv_iload hx hb dX12_told_41 (lv_at hl 0 rfl) ?_
        refine lv_iconst (v := 1) hx hb dX12_told_43 rfl ?_
        refine lv_iadd hx hb dX12_told_44 ?_
        obtain ⟨g3, hf⟩ := x_gd hf
        refine x_iald C hR (x_k1 (x_k hR 65 rfl)) (x_k2 (x_k hR 65 rfl) g3) dX12_told_45 ?_
        refine lv_aload_n hx hb dX12_told_46 rfl (lv_at hl 1 rfl) ?_
        refine gf_12_1 C hR (x_k hR 64 rfl) tw_1544 dX12_told_47 ?_
        refine lv_iload hx hb dX12_told_50 (lv_at hl 0 rfl) ?_
        refine lv_iconst (v := 2) hx hb dX12_told_52 rfl ?_
        refine lv_iadd hx hb dX12_told_53 ?_
        obtain ⟨g4, hf⟩ := x_gd hf
        refine x_iald C hR (x_k1 (x_k hR 65 rfl)) (x_k2 (x_k hR 65 rfl) g4) dX12_told_54 ?_
        refine lv_if_ge (tgt := 62) hx hb dX12_told_55 rfl (fun hc => ?_) (fun hc => ?_)
        · have hf := x_ip hc hf
          refine lv_aload_n hx hb dX12_told_62 rfl (lv_at hl 1 rfl) ?_
          refine gf_12_14 C hR (x_k hR 64 rfl) tw_1557 dX12_told_63 ?_
          refine lv_aload_n hx hb dX12_told_66 rfl (lv_at hl 1 rfl) ?_
          refine gf_12_1 C hR (x_k hR 64 rfl) tw_1544 dX12_told_67 ?_
          refine lv_iload hx hb dX12_told_70 (lv_at hl 0 rfl) ?_
          refine lv_iconst (v := 2) hx hb dX12_told_72 rfl ?_
          refine lv_iadd hx hb dX12_told_73 ?_
          obtain ⟨g5, hf⟩ := x_gd hf
          refine x_iald C hR (x_k1 (x_k hR 65 rfl)) (x_k2 (x_k hR 65 rfl) g5) dX12_told_74 ?_
          obtain ⟨g6, hf⟩ := x_gd hf
          refine x_iald C hR (x_k1 (x_k hR 69 rfl)) (x_k2 (x_k hR 69 rfl) g6) dX12_told_75 ?_
          exact B_X12_told_76  C ih  ls _ _ q2.2 _ _ _ _ _ _  (lv_sub hl [1, 2, 3, 4, 0] rfl) hR hS hf
        · have hf := x_in hc hf
          refine lv_iconst (v := 1) hx hb dX12_told_58 rfl ?_
          refine lv_goto (tgt := 76) hx hb dX12_told_59 rfl ?_
          exact B_X12_told_76  C ih  ls _ _ q2.2 _ _ _ _ _ _  (lv_sub hl [1, 2, 3, 4, 0] rfl) hR hS hf
      · have hf := x_ip hc hf
        refine lv_goto (tgt := 100) hx hb dX12_told_34 rfl ?_
        exact B_X12_told_100  C ih  ls _ _ q2.2 _ _ _  (lv_sub hl [1, 2, 3, 4] rfl) hR hS hf
set_option maxRecDepth 20000 in
theorem S_X12_told {l : Launch} {O : XO} {K : XK} {h : XH} {v1 : Int32}  {r : Int32} {h' : XH}  (hf : f_X12_told (oX O) h v1 = some (r, h')) : x_M l O K yX12_told cX12_told 6 (some .int) 2 48 h [.ref (oX O + 64), .int v1] (some (.int r)) h' := by
  refine x_enter (by decide) (Nat.le_of_ble_eq_true rfl) (fun p e s m args below meth c C hR ls hl => ?_)
  have hS : va_S (oA O) s.heap s.heap [] := va_S.rf
  have hx := C.1
  have hb := C.2.1
  have hl : lv_has ls 6 [(0, .ref (oX O + 64)), (1, .int v1)] := hl
  rw [f_X12_told] at hf
  refine lv_iconst (v := 0) hx hb dX12_told_0 rfl ?_
  refine lv_istore_n (lv' := [(2, _), (0, _), (1, _)]) hx hb dX12_told_1 rfl hl (Nat.le_of_ble_eq_true rfl) rfl (fun ls hl => ?_)
  refine lv_iconst (v := 0) hx hb dX12_told_2 rfl ?_
  refine lv_istore_n (lv' := [(3, _), (2, _), (0, _), (1, _)]) hx hb dX12_told_3 rfl hl (Nat.le_of_ble_eq_true rfl) rfl (fun ls hl => ?_)
  exact B_X12_told_4  C  x_FU ls _ _ h _ _ _  (lv_sub hl [2, 3, 1, 0] rfl) hR hS hf
