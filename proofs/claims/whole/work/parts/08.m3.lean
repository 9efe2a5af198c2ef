def f_X6_swappedWith (x : Nat) (h : XH) (v1 : Nat) (v2 : Int32) (v3 : Int32) : Int32 := if 2 ≤ (f_X2_cardsAt v1 h v2) then (f_X2_cardWith v1 h v2 (if (f_X2_cardsAt v1 h v2) ≤ (v3 + 1) then 0 else (v3 + 1))) else (-1)
set_option maxRecDepth 20000 in
theorem S_X6_swappedWith {l : Launch} {O : XO} {K : XK} {h : XH} {v1 : Nat} {v2 : Int32} {v3 : Int32}  {r : Int32} (k1 : K v1 = (3, 0)) (hf : f_X6_swappedWith (oX O) h v1 v2 v3 = r) : x_M l O K yX6_swappedWith cX6_swappedWith 5 (some .int) 2 44 h [.ref (oX O + 49), .ref v1, .int v2, .int v3] (some (.int r)) h := by
  refine x_enter (by decide) (Nat.le_of_ble_eq_true rfl) (fun p e s m args below meth c C hR ls hl => ?_)
  have hS : va_S (oA O) s.heap s.heap [] := va_S.rf
  have hx := C.1
  have hb := C.2.1
  have hl : lv_has ls 5 [(0, .ref (oX O + 49)), (1, .ref v1), (2, .int v2), (3, .int v3)] := hl
  rw [f_X6_swappedWith] at hf
  refine lv_aload_n hx hb dX6_swappedWith_0 rfl (lv_at hl 1 rfl) ?_
  refine lv_iload_n hx hb dX6_swappedWith_1 rfl (lv_at hl 2 rfl) ?_
  refine x_cVi1 C hR hS (S_X2_cardsAt k1 rfl) k1 (by decide) rfl mf_X2_cardsAt tw_1191 (Nat.le_of_ble_eq_true rfl) (Nat.le_of_ble_eq_true rfl) hl.1 (Nat.le_of_ble_eq_true rfl) dX6_swappedWith_2 ⟨Nat.le_refl _, Nat.le_refl _⟩ (fun H locs hR hS => ?_)
  refine lv_istore (lv' := [(4, _), (0, _), (1, _), (2, _), (3, _)]) hx hb dX6_swappedWith_5 hl (Nat.le_of_ble_eq_true rfl) rfl (fun ls hl => ?_)
  refine lv_iload hx hb dX6_swappedWith_7 (lv_at hl 0 rfl) ?_
  refine lv_iconst (v := 2) hx hb dX6_swappedWith_9 rfl ?_
  refine lv_icmp_ge (tgt := 15) hx hb dX6_swappedWith_10 rfl (fun hc => ?_) (fun hc => ?_)
  · have hf := x_ip hc hf
    refine lv_aload_n hx hb dX6_swappedWith_15 rfl (lv_at hl 2 rfl) ?_
    refine lv_iload_n hx hb dX6_swappedWith_16 rfl (lv_at hl 3 rfl) ?_
    refine lv_iload_n hx hb dX6_swappedWith_17 rfl (lv_at hl 4 rfl) ?_
    refine lv_iconst (v := 1) hx hb dX6_swappedWith_18 rfl ?_
    refine lv_iadd hx hb dX6_swappedWith_19 ?_
    refine lv_iload hx hb dX6_swappedWith_20 (lv_at hl 0 rfl) ?_
    have kM1 : ∀ (ls : Array Slot) (H : Heap) (locs : List Loc), lv_has ls 5 [] → x_R O K h H → va_S (oA O) s.heap H locs → W p l e (x_rm 2 44) s m args below meth c H locs 0 0 (MQ below (x_Qc O K h (some (.int r))) args s 0 0 (oA O)) (F0 m 32 ls [.int (if (f_X2_cardsAt v1 h v2) ≤ (v3 + 1) then 0 else (v3 + 1)), .int v2, .ref v1]) := by
      intro ls H locs hl hR hS
      refine x_cVi2 C hR hS (S_X2_cardWith k1 rfl) k1 (by decide) rfl mf_X2_cardWith tw_1172 (Nat.le_of_ble_eq_true rfl) (Nat.le_of_ble_eq_true rfl) hl.1 (Nat.le_of_ble_eq_true rfl) dX6_swappedWith_32 ⟨Nat.le_refl _, Nat.le_refl _⟩ (fun H locs hR hS => ?_)
      cases hf
      exact x_iret C hR hS dX6_swappedWith_35
    refine lv_icmp_ge (tgt := 31) hx hb dX6_swappedWith_22 rfl (fun hc => ?_) (fun hc => ?_)
    · try simp only [if_pos hc] at kM1
      refine lv_iconst (v := 0) hx hb dX6_swappedWith_31 rfl ?_
      exact kM1 ls _ _ (lv_sub hl [] rfl) hR hS
    · try simp only [if_neg hc] at kM1
      refine lv_iload_n hx hb dX6_swappedWith_25 rfl (lv_at hl 4 rfl) ?_
      refine lv_iconst (v := 1) hx hb dX6_swappedWith_26 rfl ?_
      refine lv_iadd hx hb dX6_swappedWith_27 ?_
      refine lv_goto (tgt := 32) hx hb dX6_swappedWith_28 rfl ?_
      exact kM1 ls _ _ (lv_sub hl [] rfl) hR hS
  · have hf := x_in hc hf
    refine lv_iconst (v := (-1)) hx hb dX6_swappedWith_13 rfl ?_
    cases hf
    exact x_iret C hR hS dX6_swappedWith_14
def f_X8_endOfThing_74 (x : Nat) (h : XH) (v4 : Int32) : Option Int32 := some v4
def f_X8_endOfThing_68 (k25 : Int32 → Int32 → Int32 → Option Int32) (x : Nat) (h : XH) (v2 : Int32) (v3 : Int32) (v4 : Int32) : Option Int32 := k25 v2 v3 (v4 + 1)
def f_X8_endOfThing_51 (k25 : Int32 → Int32 → Int32 → Option Int32) (x : Nat) (h : XH) (v2 : Int32) (v3 : Int32) (v4 : Int32) : Option Int32 := if v3 = 0 then f_X8_endOfThing_74 x h v4 else if x_b v4 400 = true then if (f_X8_isDigit h (h.1 (x + 2) v4.toNatClampNeg)) = 0 then f_X8_endOfThing_74 x h v4 else f_X8_endOfThing_68 k25 x h v2 v3 v4 else none
def f_X8_endOfThing_25 (x : Nat) (h : XH) : Nat → Int32 → Int32 → Int32 → Option Int32
  | 0, _, _, _ => none
  | n + 1, v2, v3, v4 => if (h.1 (x + 1) 1) ≤ v4 then f_X8_endOfThing_74 x h v4 else if v2 = 0 then f_X8_endOfThing_51 (f_X8_endOfThing_25 x h n) x h v2 v3 v4 else if x_b v4 400 = true then if (f_X8_isLetter h (h.1 (x + 2) v4.toNatClampNeg)) = 0 then f_X8_endOfThing_51 (f_X8_endOfThing_25 x h n) x h v2 v3 v4 else f_X8_endOfThing_68 (f_X8_endOfThing_25 x h n) x h v2 v3 v4 else none
def f_X8_endOfThing (x : Nat) (h : XH) (v1 : Int32) : Option Int32 := if x_b v1 400 = true then x_let ((f_X8_isLetter h (h.1 (x + 2) v1.toNatClampNeg)) : Int32) (fun t2 => if x_b v1 400 = true then x_let ((f_X8_isDigit h (h.1 (x + 2) v1.toNatClampNeg)) : Int32) (fun t4 => f_X8_endOfThing_25 x h x_FU t2 t4 (v1 + 1)) else none) else none
set_option maxRecDepth 20000 in
theorem B_X8_endOfThing_74 {p : Program} {l : Launch} {e : Env} {s : State} {m : MethodId} {args : Array Value} {below : List Frame} {meth : Method} {c : Code} {O : XO} {K : XK} {h : XH} {r : Int32}   (C : x_C p s m args meth c O cX8_endOfThing 5 RX8 (some .int))   (ls : Array Slot) (H : Heap) (locs : List Loc) (v4 : Int32) (hl : lv_has ls 5 [(4, .int v4)]) (hR : x_R O K h H) (hS : va_S (oA O) s.heap H locs) (hf : f_X8_endOfThing_74 (oX O) h v4 = some r) : W p l e (x_rm 1 20) s m args below meth c H locs 0 0 (MQ below (x_Qc O K h (some (.int r))) args s 0 0 (oA O)) (F0 m 74 ls []) := by
  have hx := C.1
  have hb := C.2.1
  rw [f_X8_endOfThing_74] at hf
  refine lv_iload hx hb dX8_endOfThing_74 (lv_at hl 0 rfl) ?_
  cases hf
  exact x_iret C hR hS dX8_endOfThing_76
set_option maxRecDepth 20000 in
theorem B_X8_endOfThing_68 {p : Program} {l : Launch} {e : Env} {s : State} {m : MethodId} {args : Array Value} {below : List Frame} {meth : Method} {c : Code} {O : XO} {K : XK} {h : XH} {r : Int32}  {k25 : Int32 → Int32 → Int32 → Option Int32} (C : x_C p s m args meth c O cX8_endOfThing 5 RX8 (some .int)) (hk25 : ∀ (ls : Array Slot) (H : Heap) (locs : List Loc) (v2 : Int32) (v3 : Int32) (v4 : Int32), lv_has ls 5 [(0, .ref (oX O + 1)), (2, .int v2), (3, .int v3), (4, .int v4)] → x_R O K h H → va_S (oA O) s.heap H locs → k25 v2 v3 v4 = some r → W p l e (x_rm 1 20) s m args below meth c H locs 0 0 (MQ below (x_Qc O K h (some (.int r))) args s 0 0 (oA O)) (F0 m 25 ls []))  (ls : Array Slot) (H : Heap) (locs : List Loc) (v2 : Int32) (v3 : Int32) (v4 : Int32) (hl : lv_has ls 5 [(0, .ref (oX O + 1)), (2, .int v2), (3, .int v3), (4, .int v4)]) (hR : x_R O K h H) (hS : va_S (oA O) s.heap H locs) (hf : f_X8_endOfThing_68 k25 (oX O) h v2 v3 v4 = some r) : W p l e (x_rm 1 20) s m args below meth c H locs 0 0 (MQ below (x_Qc O K h (some (.int r))) args s 0 0 (oA O)) (F0 m 68 ls []) := by
  have hx := C.1
  have hb := C.2.1
  rw [f_X8_endOfThing_68] at hf
  refine lv_iinc (k := 3) (v := _ + 1) (lv' := [(4, _), (0, _), (2, _), (3, _)]) hx hb dX8_endOfThing_68 hl rfl (x_inc 1 1 rfl _) (Nat.le_of_ble_eq_true rfl) rfl (fun ls hl => ?_)
  refine lv_goto (tgt := 25) hx hb dX8_endOfThing_71 rfl ?_
  exact hk25 ls _ _ _ _ _  (lv_sub hl [1, 2, 3, 0] rfl) hR hS hf
set_option maxRecDepth 20000 in
theorem B_X8_endOfThing_51 {p : Program} {l : Launch} {e : Env} {s : State} {m : MethodId} {args : Array Value} {below : List Frame} {meth : Method} {c : Code} {O : XO} {K : XK} {h : XH} {r : Int32}  {k25 : Int32 → Int32 → Int32 → Option Int32} (C : x_C p s m args meth c O cX8_endOfThing 5 RX8 (some .int)) (hk25 : ∀ (ls : Array Slot) (H : Heap) (locs : List Loc) (v2 : Int32) (v3 : Int32) (v4 : Int32), lv_has ls 5 [(0, .ref (oX O + 1)), (2, .int v2), (3, .int v3), (4, .int v4)] → x_R O K h H → va_S (oA O) s.heap H locs → k25 v2 v3 v4 = some r → W p l e (x_rm 1 20) s m args below meth c H locs 0 0 (MQ below (x_Qc O K h (some (.int r))) args s 0 0 (oA O)) (F0 m 25 ls []))  (ls : Array Slot) (H : Heap) (locs : List Loc) (v2 : Int32) (v3 : Int32) (v4 : Int32) (hl : lv_has ls 5 [(0, .ref (oX O + 1)), (2, .int v2), (3, .int v3), (4, .int v4)]) (hR : x_R O K h H) (hS : va_S (oA O) s.heap H locs) (hf : f_X8_endOfThing_51 k25 (oX O) h v2 v3 v4 = some r) : W p l e (x_rm 1 20) s m args below meth c H locs 0 0 (MQ below (x_Qc O K h (some (.int r))) args s 0 0 (oA O)) (F0 m 51 ls []) := by
  have hx := C.1
  have hb := C.2.1
  rw [f_X8_endOfThing_51] at hf
  refine lv_iload_n hx hb dX8_endOfThing_51 rfl (lv_at hl 2 rfl) ?_
  refine lv_if_eq (tgt := 74) hx hb dX8_endOfThing_52 rfl (fun hc => ?_) (fun hc => ?_)
  · have hf := x_ip hc hf
    exact B_X8_endOfThing_74  C   ls _ _ _  (lv_sub hl [3] rfl) hR hS hf
  · have hf := x_in hc hf
    refine lv_aload_n hx hb dX8_endOfThing_55 rfl (lv_at hl 0 rfl) ?_
    refine gf_8_0 C hR (x_k hR 1 rfl) tw_149 dX8_endOfThing_56 ?_
    refine lv_iload hx hb dX8_endOfThing_59 (lv_at hl 3 rfl) ?_
    obtain ⟨g5, hf⟩ := x_gd hf
    refine x_iald C hR (x_k1 (x_k hR 2 rfl)) (x_k2 (x_k hR 2 rfl) g5) dX8_endOfThing_61 ?_
    refine x_cSi1 C hR hS (S_X8_isDigit  rfl) mf_X8_isDigit tw_643 (Nat.le_of_ble_eq_true rfl) (Nat.le_of_ble_eq_true rfl) hl.1 (Nat.le_of_ble_eq_true rfl) dX8_endOfThing_62 ⟨Nat.le_refl _, Nat.le_refl _⟩ (fun H locs hR hS => ?_)
    refine lv_if_eq (tgt := 74) hx hb dX8_endOfThing_65 rfl (fun hc => ?_) (fun hc => ?_)
    · have hf := x_ip hc hf
      exact B_X8_endOfThing_74  C   ls _ _ _  (lv_sub hl [3] rfl) hR hS hf
    · have hf := x_in hc hf
      exact B_X8_endOfThing_68  C hk25  ls _ _ _ _ _  (lv_sub hl [0, 1, 2, 3] rfl) hR hS hf
set_option maxRecDepth 20000 in
theorem B_X8_endOfThing_25 {p : Program} {l : Launch} {e : Env} {s : State} {m : MethodId} {args : Array Value} {below : List Frame} {meth : Method} {c : Code} {O : XO} {K : XK} {h : XH} {r : Int32}   (C : x_C p s m args meth c O cX8_endOfThing 5 RX8 (some .int))   : ∀ (n : Nat) (ls : Array Slot) (H : Heap) (locs : List Loc) (v2 : Int32) (v3 : Int32) (v4 : Int32) (hl : lv_has ls 5 [(0, .ref (oX O + 1)), (2, .int v2), (3, .int v3), (4, .int v4)]) (hR : x_R O K h H) (hS : va_S (oA O) s.heap H locs) (hf : f_X8_endOfThing_25 (oX O) h n v2 v3 v4 = some r), W p l e (x_rm 1 20) s m args below meth c H locs 0 0 (MQ below (x_Qc O K h (some (.int r))) args s 0 0 (oA O)) (F0 m 25 ls []) := by
  have hx := C.1
  have hb := C.2.1
  intro n
  induction n with
  | zero =>
    intro ls H locs v2 v3 v4 hl hR hS hf
    rw [f_X8_endOfThing_25] at hf
    cases hf
  | succ n ih =>
    intro ls H locs v2 v3 v4 hl hR hS hf
    rw [f_X8_endOfThing_25] at hf
    refine lv_iload hx hb dX8_endOfThing_25 (lv_at hl 3 rfl) ?_
    refine lv_aload_n hx hb dX8_endOfThing_27 rfl (lv_at hl 0 rfl) ?_
    refine gf_8_1 C hR (x_k hR 1 rfl) tw_150 dX8_endOfThing_28 ?_
    refine lv_icmp_ge (tgt := 74) hx hb dX8_endOfThing_31 rfl (fun hc => ?_) (fun hc => ?_)
    · have hf := x_ip hc hf
      exact B_X8_endOfThing_74  C   ls _ _ _  (lv_sub hl [3] rfl) hR hS hf
    · have hf := x_in hc hf
      refine lv_iload_n hx hb dX8_endOfThing_34 rfl (lv_at hl 1 rfl) ?_
      refine lv_if_eq (tgt := 51) hx hb dX8_endOfThing_35 rfl (fun hc => ?_) (fun hc => ?_)
      · have hf := x_ip hc hf
        exact B_X8_endOfThing_51  C ih  ls _ _ _ _ _  (lv_sub hl [0, 1, 2, 3] rfl) hR hS hf
      · have hf := x_in hc hf
        refine lv_aload_n hx hb dX8_endOfThing_38 rfl (lv_at hl 0 rfl) ?_
        refine gf_8_0 C hR (x_k hR 1 rfl) tw_149 dX8_endOfThing_39 ?_
        refine lv_iload hx hb dX8_endOfThing_42 (lv_at hl 3 rfl) ?_
        obtain ⟨g6, hf⟩ := x_gd hf
        refine x_iald C hR (x_k1 (x_k hR 2 rfl)) (x_k2 (x_k hR 2 rfl) g6) dX8_endOfThing_44 ?_
        refine x_cSi1 C hR hS (S_X8_isLetter  rfl) mf_X8_isLetter tw_640 (Nat.le_of_ble_eq_true rfl) (Nat.le_of_ble_eq_true rfl) hl.1 (Nat.le_of_ble_eq_true rfl) dX8_endOfThing_45 ⟨Nat.le_refl _, Nat.le_refl _⟩ (fun H locs hR hS => ?_)
        refine lv_if_ne (tgt := 68) hx hb dX8_endOfThing_48 rfl (fun hc => ?_) (fun hc => ?_)
        · have hf := x_in hc hf
          exact B_X8_endOfThing_68  C ih  ls _ _ _ _ _  (lv_sub hl [0, 1, 2, 3] rfl) hR hS hf
        · have hf := x_ip hc hf
          exact B_X8_endOfThing_51  C ih  ls _ _ _ _ _  (lv_sub hl [0, 1, 2, 3] rfl) hR hS hf
set_option maxRecDepth 20000 in
theorem S_X8_endOfThing {l : Launch} {O : XO} {K : XK} {h : XH} {v1 : Int32}  {r : Int32}  (hf : f_X8_endOfThing (oX O) h v1 = some r) : x_M l O K yX8_endOfThing cX8_endOfThing 5 (some .int) 1 20 h [.ref (oX O + 1), .int v1] (some (.int r)) h := by
  refine x_enter (by decide) (Nat.le_of_ble_eq_true rfl) (fun p e s m args below meth c C hR ls hl => ?_)
  have hS : va_S (oA O) s.heap s.heap [] := va_S.rf
  have hx := C.1
  have hb := C.2.1
  have hl : lv_has ls 5 [(0, .ref (oX O + 1)), (1, .int v1)] := hl
  rw [f_X8_endOfThing] at hf
  refine lv_aload_n hx hb dX8_endOfThing_0 rfl (lv_at hl 0 rfl) ?_
  refine gf_8_0 C hR (x_k hR 1 rfl) tw_149 dX8_endOfThing_1 ?_
  refine lv_iload_n hx hb dX8_endOfThing_4 rfl (lv_at hl 1 rfl) ?_
  obtain ⟨g1, hf⟩ := x_gd hf
  refine x_iald C hR (x_k1 (x_k hR 2 rfl)) (x_k2 (x_k hR 2 rfl) g1) dX8_endOfThing_5 ?_
  refine x_cSi1 C hR hS (S_X8_isLetter  rfl) mf_X8_isLetter tw_640 (Nat.le_of_ble_eq_true rfl) (Nat.le_of_ble_eq_true rfl) hl.1 (Nat.le_of_ble_eq_true rfl) dX8_endOfThing_6 ⟨Nat.le_refl _, Nat.le_refl _⟩ (fun H locs hR hS => ?_)
  obtain ⟨t2, et2, hf⟩ := x_lt hf
  refine x_nmi et2 ?_
  refine lv_istore_n (lv' := [(2, _), (0, _), (1, _)]) hx hb dX8_endOfThing_9 rfl hl (Nat.le_of_ble_eq_true rfl) rfl (fun ls hl => ?_)
  refine lv_aload_n hx hb dX8_endOfThing_10 rfl (lv_at hl 1 rfl) ?_
  refine gf_8_0 C hR (x_k hR 1 rfl) tw_149 dX8_endOfThing_11 ?_
  refine lv_iload_n hx hb dX8_endOfThing_14 rfl (lv_at hl 2 rfl) ?_
  obtain ⟨g3, hf⟩ := x_gd hf
  refine x_iald C hR (x_k1 (x_k hR 2 rfl)) (x_k2 (x_k hR 2 rfl) g3) dX8_endOfThing_15 ?_
  refine x_cSi1 C hR hS (S_X8_isDigit  rfl) mf_X8_isDigit tw_643 (Nat.le_of_ble_eq_true rfl) (Nat.le_of_ble_eq_true rfl) hl.1 (Nat.le_of_ble_eq_true rfl) dX8_endOfThing_16 ⟨Nat.le_refl _, Nat.le_refl _⟩ (fun H locs hR hS => ?_)
  obtain ⟨t4, et4, hf⟩ := x_lt hf
  refine x_nmi et4 ?_
  refine lv_istore_n (lv' := [(3, _), (2, _), (0, _), (1, _)]) hx hb dX8_endOfThing_19 rfl hl (Nat.le_of_ble_eq_true rfl) rfl (fun ls hl => ?_)
  refine lv_iload_n hx hb dX8_endOfThing_20 rfl (lv_at hl 3 rfl) ?_
  refine lv_iconst (v := 1) hx hb dX8_endOfThing_21 rfl ?_
  refine lv_iadd hx hb dX8_endOfThing_22 ?_
  refine lv_istore (lv' := [(4, _), (3, _), (2, _), (0, _), (1, _)]) hx hb dX8_endOfThing_23 hl (Nat.le_of_ble_eq_true rfl) rfl (fun ls hl => ?_)
  exact B_X8_endOfThing_25  C  x_FU ls _ _ _ _ _  (lv_sub hl [3, 2, 1, 0] rfl) hR hS hf
def f_X9_tell_93 (k14 : XH → Nat → Int64 → Int32 → Int32 → Option (Int64 × XH)) (K : XK) (x : Nat) (h : XH) (v1 : Nat) (v2 : Int64) (v5 : Int32) (v6 : Int32) : Option (Int64 × XH) := k14 h v1 v2 v6 (v5 + 1)
def f_X9_tell_89 (k14 : XH → Nat → Int64 → Int32 → Int32 → Option (Int64 × XH)) (K : XK) (x : Nat) (h : XH) (v1 : Nat) (v5 : Int32) (v6 : Int32) (s0 : Int64) (s1 : Int64) (s2 : Int32) : Option (Int64 × XH) := f_X9_tell_93 k14 K x h v1 (s0 + (s1 * s2.toInt64)) v5 v6
def f_X9_tell_78 (k14 : XH → Nat → Int64 → Int32 → Int32 → Option (Int64 × XH)) (K : XK) (x : Nat) (h : XH) (v1 : Nat) (v5 : Int32) (v6 : Int32) (s0 : Int64) (s1 : Int64) : Option (Int64 × XH) := f_X9_tell_89 k14 K x h v1 v5 v6 s0 s1 1
def f_X9_tell_14 (K : XK) (x : Nat) : Nat → XH → Nat → Int64 → Int32 → Int32 → Option (Int64 × XH)
  | 0, _, _, _, _, _ => none
  | n + 1, h, v1, v2, v4, v5 => if (nI (K (v1 + 1)).2) ≤ v5 then some (v2, h) else if x_b v5 (K (v1 + 3)).2 = true then x_let ((h.1 (v1 + 3) v5.toNatClampNeg) : Int32) (fun t3 => Option.bind (f_X9_isMet K x h (some v1) v4 t3) (fun q4 => if q4.1 = 0 then f_X9_tell_93 (f_X9_tell_14 K x n) K x q4.2 v1 v2 v5 t3 else if x_b v5 (K (v1 + 2)).2 = true then x_let ((q4.2.1 (v1 + 2) v5.toNatClampNeg) : Int32) (fun t6 => if x_b v5 (K (v1 + 1)).2 = true then if t6 < 0 then f_X9_tell_78 (f_X9_tell_14 K x n) K x q4.2 v1 v5 t3 v2 ((q4.2.1 (v1 + 1) v5.toNatClampNeg).toInt64) else if t6 < 10 then if x_b t6 10 = true then f_X9_tell_89 (f_X9_tell_14 K x n) K x q4.2 v1 v5 t3 v2 ((q4.2.1 (v1 + 1) v5.toNatClampNeg).toInt64) (q4.2.1 (x + 44) t6.toNatClampNeg) else none else f_X9_tell_78 (f_X9_tell_14 K x n) K x q4.2 v1 v5 t3 v2 ((q4.2.1 (v1 + 1) v5.toNatClampNeg).toInt64) else none) else none)) else none
def f_X9_tell (K : XK) (x : Nat) (h : XH) (v1 : Option Nat) : Option (Int64 × XH) := x_opt v1 (some (0, h)) (fun r1 => f_X9_tell_14 K x x_FU h r1 0 0 0)
set_option maxRecDepth 20000 in
theorem B_X9_tell_93 {p : Program} {l : Launch} {e : Env} {s : State} {m : MethodId} {args : Array Value} {below : List Frame} {meth : Method} {c : Code} {O : XO} {K : XK} {r : Int64} {h' : XH}  {k14 : XH → Nat → Int64 → Int32 → Int32 → Option (Int64 × XH)} (C : x_C p s m args meth c O cX9_tell 8 RX9 (some .long)) (hk14 : ∀ (ls : Array Slot) (H : Heap) (locs : List Loc) (h : XH) (v1 : Nat) (v2 : Int64) (v4 : Int32) (v5 : Int32) (kv1 : K v1 = (11, 0)), lv_has ls 8 [(0, .ref (oX O + 43)), (1, .ref v1), (2, .long v2), (4, .int v4), (5, .int v5)] → x_R O K h H → va_S (oA O) s.heap H locs → k14 h v1 v2 v4 v5 = some (r, h') → W p l e (x_rm 1 28) s m args below meth c H locs 0 0 (MQ below (x_Qc O K h' (some (.long r))) args s 0 0 (oA O)) (F0 m 14 ls []))  (ls : Array Slot) (H : Heap) (locs : List Loc) (h : XH) (v1 : Nat) (v2 : Int64) (v5 : Int32) (v6 : Int32) (kv1 : K v1 = (11, 0)) (hl : lv_has ls 8 [(0, .ref (oX O + 43)), (1, .ref v1), (2, .long v2), (5, .int v5), (6, .int v6)]) (hR : x_R O K h H) (hS : va_S (oA O) s.heap H locs) (hf : f_X9_tell_93 k14 K (oX O) h v1 v2 v5 v6 = some (r, h')) : W p l e (x_rm 1 28) s m args below meth c H locs 0 0 (MQ below (x_Qc O K h' (some (.long r))) args s 0 0 (oA O)) (F0 m 93 ls []) := by
  have hx := C.1
  have hb := C.2.1
  rw [f_X9_tell_93] at hf
  refine lv_iload hx hb dX9_tell_93 (lv_at hl 4 rfl) ?_
  refine lv_istore (lv' := [(4, _), (0, _), (1, _), (2, _), (5, _), (6, _)]) hx hb dX9_tell_95 hl (Nat.le_of_ble_eq_true rfl) rfl (fun ls hl => ?_)
  refine lv_iinc (k := 4) (v := _ + 1) (lv' := [(5, _), (4, _), (0, _), (1, _), (2, _), (6, _)]) hx hb dX9_tell_97 hl rfl (x_inc 1 1 rfl _) (Nat.le_of_ble_eq_true rfl) rfl (fun ls hl => ?_)
  refine lv_goto (tgt := 14) hx hb dX9_tell_100 rfl ?_
  exact hk14 ls _ _ h _ _ _ _ kv1 (lv_sub hl [2, 3, 4, 1, 0] rfl) hR hS hf
set_option maxRecDepth 20000 in
theorem B_X9_tell_89 {p : Program} {l : Launch} {e : Env} {s : State} {m : MethodId} {args : Array Value} {below : List Frame} {meth : Method} {c : Code} {O : XO} {K : XK} {r : Int64} {h' : XH}  {k14 : XH → Nat → Int64 → Int32 → Int32 → Option (Int64 × XH)} (C : x_C p s m args meth c O cX9_tell 8 RX9 (some .long)) (hk14 : ∀ (ls : Array Slot) (H : Heap) (locs : List Loc) (h : XH) (v1 : Nat) (v2 : Int64) (v4 : Int32) (v5 : Int32) (kv1 : K v1 = (11, 0)), lv_has ls 8 [(0, .ref (oX O + 43)), (1, .ref v1), (2, .long v2), (4, .int v4), (5, .int v5)] → x_R O K h H → va_S (oA O) s.heap H locs → k14 h v1 v2 v4 v5 = some (r, h') → W p l e (x_rm 1 28) s m args below meth c H locs 0 0 (MQ below (x_Qc O K h' (some (.long r))) args s 0 0 (oA O)) (F0 m 14 ls []))  (ls : Array Slot) (H : Heap) (locs : List Loc) (h : XH) (v1 : Nat) (v5 : Int32) (v6 : Int32) (s0 : Int64) (s1 : Int64) (s2 : Int32) (kv1 : K v1 = (11, 0)) (hl : lv_has ls 8 [(0, .ref (oX O + 43)), (1, .ref v1), (5, .int v5), (6, .int v6)]) (hR : x_R O K h H) (hS : va_S (oA O) s.heap H locs) (hf : f_X9_tell_89 k14 K (oX O) h v1 v5 v6 s0 s1 s2 = some (r, h')) : W p l e (x_rm 1 28) s m args below meth c H locs 0 0 (MQ below (x_Qc O K h' (some (.long r))) args s 0 0 (oA O)) (F0 m 89 ls [.int s2, .long s1, .long s0]) := by
  have hx := C.1
  have hb := C.2.1
  rw [f_X9_tell_89] at hf
  refine lv_i2l hx hb dX9_tell_89 rfl ?_
  refine lv_lmul hx hb dX9_tell_90 ?_
  refine lv_ladd hx hb dX9_tell_91 ?_
  refine lv_lstore_n (lv' := [(2, _), (0, _), (1, _), (5, _), (6, _)]) hx hb dX9_tell_92 rfl hl (Nat.le_of_ble_eq_true rfl) rfl (fun ls hl => ?_)
  exact B_X9_tell_93  C hk14  ls _ _ h _ _ _ _ kv1 (lv_sub hl [1, 2, 0, 3, 4] rfl) hR hS hf
set_option maxRecDepth 20000 in
theorem B_X9_tell_78 {p : Program} {l : Launch} {e : Env} {s : State} {m : MethodId} {args : Array Value} {below : List Frame} {meth : Method} {c : Code} {O : XO} {K : XK} {r : Int64} {h' : XH}  {k14 : XH → Nat → Int64 → Int32 → Int32 → Option (Int64 × XH)} (C : x_C p s m args meth c O cX9_tell 8 RX9 (some .long)) (hk14 : ∀ (ls : Array Slot) (H : Heap) (locs : List Loc) (h : XH) (v1 : Nat) (v2 : Int64) (v4 : Int32) (v5 : Int32) (kv1 : K v1 = (11, 0)), lv_has ls 8 [(0, .ref (oX O + 43)), (1, .ref v1), (2, .long v2), (4, .int v4), (5, .int v5)] → x_R O K h H → va_S (oA O) s.heap H locs → k14 h v1 v2 v4 v5 = some (r, h') → W p l e (x_rm 1 28) s m args below meth c H locs 0 0 (MQ below (x_Qc O K h' (some (.long r))) args s 0 0 (oA O)) (F0 m 14 ls []))  (ls : Array Slot) (H : Heap) (locs : List Loc) (h : XH) (v1 : Nat) (v5 : Int32) (v6 : Int32) (s0 : Int64) (s1 : Int64) (kv1 : K v1 = (11, 0)) (hl : lv_has ls 8 [(0, .ref (oX O + 43)), (1, .ref v1), (5, .int v5), (6, .int v6)]) (hR : x_R O K h H) (hS : va_S (oA O) s.heap H locs) (hf : f_X9_tell_78 k14 K (oX O) h v1 v5 v6 s0 s1 = some (r, h')) : W p l e (x_rm 1 28) s m args below meth c H locs 0 0 (MQ below (x_Qc O K h' (some (.long r))) args s 0 0 (oA O)) (F0 m 78 ls [.long s1, .long s0]) := by
  have hx := C.1
  have hb := C.2.1
  rw [f_X9_tell_78] at hf
  refine lv_iconst (v := 1) hx hb dX9_tell_78 rfl ?_
  refine lv_goto (tgt := 89) hx hb dX9_tell_79 rfl ?_
  exact B_X9_tell_89  C hk14  ls _ _ h _ _ _ _ _ _ kv1 (lv_sub hl [0, 1, 2, 3] rfl) hR hS hf
set_option maxRecDepth 20000 in
theorem B_X9_tell_14 {p : Program} {l : Launch} {e : Env} {s : State} {m : MethodId} {args : Array Value} {below : List Frame} {meth : Method} {c : Code} {O : XO} {K : XK} {r : Int64} {h' : XH}   (C : x_C p s m args meth c O cX9_tell 8 RX9 (some .long))   : ∀ (n : Nat) (ls : Array Slot) (H : Heap) (locs : List Loc) (h : XH) (v1 : Nat) (v2 : Int64) (v4 : Int32) (v5 : Int32) (kv1 : K v1 = (11, 0)) (hl : lv_has ls 8 [(0, .ref (oX O + 43)), (1, .ref v1), (2, .long v2), (4, .int v4), (5, .int v5)]) (hR : x_R O K h H) (hS : va_S (oA O) s.heap H locs) (hf : f_X9_tell_14 K (oX O) n h v1 v2 v4 v5 = some (r, h')), W p l e (x_rm 1 28) s m args below meth c H locs 0 0 (MQ below (x_Qc O K h' (some (.long r))) args s 0 0 (oA O)) (F0 m 14 ls []) := by
  have hx := C.1
  have hb := C.2.1
  intro n
  induction n with
  | zero =>
    intro ls H locs h v1 v2 v4 v5 kv1 hl hR hS hf
    rw [f_X9_tell_14] at hf
    cases hf
  | succ n ih =>
    intro ls H locs h v1 v2 v4 v5 kv1 hl hR hS hf
    rw [f_X9_tell_14] at hf
    refine lv_iload hx hb dX9_tell_14 (lv_at hl 4 rfl) ?_
    refine lv_aload_n hx hb dX9_tell_16 rfl (lv_at hl 1 rfl) ?_
    refine gf_10_0 C hR kv1 tw_764 dX9_tell_17 ?_
    refine x_alen C hR (kf_10_1 hR kv1) dX9_tell_20 ?_
    refine lv_icmp_ge (tgt := 103) hx hb dX9_tell_21 rfl (fun hc => ?_) (fun hc => ?_)
    · have hf := x_ip hc hf
      refine lv_lload_n hx hb dX9_tell_103 rfl (lv_at hl 2 rfl) ?_
      cases hf
      exact x_lret C hR hS dX9_tell_104
    · have hf := x_in hc hf
      refine lv_aload_n hx hb dX9_tell_24 rfl (lv_at hl 1 rfl) ?_
      refine gf_10_2 C hR kv1 tw_768 dX9_tell_25 ?_
      refine lv_iload hx hb dX9_tell_28 (lv_at hl 4 rfl) ?_
      obtain ⟨g2, hf⟩ := x_gd hf
      refine x_iald C hR (kf_10_3 hR kv1) g2 dX9_tell_30 ?_
      obtain ⟨t3, et3, hf⟩ := x_lt hf
      refine x_nmi et3 ?_
      refine lv_istore (lv' := [(6, _), (0, _), (1, _), (2, _), (4, _), (5, _)]) hx hb dX9_tell_31 hl (Nat.le_of_ble_eq_true rfl) rfl (fun ls hl => ?_)
      refine lv_aload_n hx hb dX9_tell_33 rfl (lv_at hl 1 rfl) ?_
      refine lv_aload_n hx hb dX9_tell_34 rfl (lv_at hl 2 rfl) ?_
      refine lv_iload hx hb dX9_tell_35 (lv_at hl 4 rfl) ?_
      refine lv_iload hx hb dX9_tell_37 (lv_at hl 0 rfl) ?_
      obtain ⟨q4, eq4, hf⟩ := x_bd hf
      refine x_cVi3 C hR hS (S_X9_isMet (x_so kv1) eq4) (x_k hR 43 rfl) (by decide) rfl mf_X9_isMet tw_1133 (Nat.le_of_ble_eq_true rfl) (Nat.le_of_ble_eq_true rfl) hl.1 (Nat.le_of_ble_eq_true rfl) dX9_tell_39 ⟨Nat.le_refl _, Nat.le_refl _⟩ (fun H locs hR hS => ?_)
      refine lv_if_eq (tgt := 93) hx hb dX9_tell_42 rfl (fun hc => ?_) (fun hc => ?_)
      · have hf := x_ip hc hf
        exact B_X9_tell_93  C ih  ls _ _ q4.2 _ _ _ _ kv1 (lv_sub hl [1, 2, 3, 5, 0] rfl) hR hS hf
      · have hf := x_in hc hf
        refine lv_aload_n hx hb dX9_tell_45 rfl (lv_at hl 2 rfl) ?_
        refine gf_10_1 C hR kv1 tw_766 dX9_tell_46 ?_
        refine lv_iload hx hb dX9_tell_49 (lv_at hl 5 rfl) ?_
        obtain ⟨g5, hf⟩ := x_gd hf
        refine x_iald C hR (kf_10_2 hR kv1) g5 dX9_tell_51 ?_
        obtain ⟨t6, et6, hf⟩ := x_lt hf
        refine x_nmi et6 ?_
        refine lv_istore (lv' := [(7, _), (6, _), (0, _), (1, _), (2, _), (4, _), (5, _)]) hx hb dX9_tell_52 hl (Nat.le_of_ble_eq_true rfl) rfl (fun ls hl => ?_)
        refine lv_lload_n hx hb dX9_tell_54 rfl (lv_at hl 4 rfl) ?_
        refine lv_aload_n hx hb dX9_tell_55 rfl (lv_at hl 3 rfl) ?_
        refine gf_10_0 C hR kv1 tw_764 dX9_tell_56 ?_
        refine lv_iload hx hb dX9_tell_59 (lv_at hl 6 rfl) ?_
        obtain ⟨g7, hf⟩ := x_gd hf
        refine x_iald C hR (kf_10_1 hR kv1) g7 dX9_tell_61 ?_
        refine lv_i2l hx hb dX9_tell_62 rfl ?_
        refine lv_iload hx hb dX9_tell_63 (lv_at hl 0 rfl) ?_
        refine lv_if_lt (tgt := 78) hx hb dX9_tell_65 rfl (fun hc => ?_) (fun hc => ?_)
        · have hf := x_ip hc hf
          exact B_X9_tell_78  C ih  ls _ _ q4.2 _ _ _ _ _ kv1 (lv_sub hl [2, 3, 6, 1] rfl) hR hS hf
        · have hf := x_in hc hf
          refine lv_iload hx hb dX9_tell_68 (lv_at hl 0 rfl) ?_
          refine lv_aload_n hx hb dX9_tell_70 rfl (lv_at hl 2 rfl) ?_
          refine gf_9_0 C hR (x_k hR 43 rfl) tw_374 dX9_tell_71 ?_
          refine x_alenc (v := 10) C hR (x_k hR 44 rfl) rfl dX9_tell_74 ?_
          refine lv_icmp_lt (tgt := 82) hx hb dX9_tell_75 rfl (fun hc => ?_) (fun hc => ?_)
          · have hf := x_ip hc hf
            refine lv_aload_n hx hb dX9_tell_82 rfl (lv_at hl 2 rfl) ?_
            refine gf_9_0 C hR (x_k hR 43 rfl) tw_374 dX9_tell_83 ?_
            refine lv_iload hx hb dX9_tell_86 (lv_at hl 0 rfl) ?_
            obtain ⟨g8, hf⟩ := x_gd hf
            refine x_iald C hR (x_k1 (x_k hR 44 rfl)) (x_k2 (x_k hR 44 rfl) g8) dX9_tell_88 ?_
            exact B_X9_tell_89  C ih  ls _ _ q4.2 _ _ _ _ _ _ kv1 (lv_sub hl [2, 3, 6, 1] rfl) hR hS hf
          · have hf := x_in hc hf
            exact B_X9_tell_78  C ih  ls _ _ q4.2 _ _ _ _ _ kv1 (lv_sub hl [2, 3, 6, 1] rfl) hR hS hf
set_option maxRecDepth 20000 in
theorem S_X9_tell {l : Launch} {O : XO} {K : XK} {h : XH} {v1 : Option Nat}  {r : Int64} {h' : XH} (k1 : ∀ r, v1 = some r → K r = (11, 0)) (hf : f_X9_tell K (oX O) h v1 = some (r, h')) : x_M l O K yX9_tell cX9_tell 8 (some .long) 1 28 h [.ref (oX O + 43), va_rf v1] (some (.long r)) h' := by
  refine x_enter (by decide) (by cases v1 <;> exact Nat.le_of_ble_eq_true rfl) (fun p e s m args below meth c C hR ls hl => ?_)
  have hS : va_S (oA O) s.heap s.heap [] := va_S.rf
  have hx := C.1
  have hb := C.2.1
  have hl : lv_has ls 8 [(0, .ref (oX O + 43)), (1, va_rf v1)] := by cases v1 <;> exact hl
  rw [f_X9_tell] at hf
  refine x_aloadq_n hx hb dX9_tell_0 rfl (lv_at hl 1 rfl) ?_
  cases v1 with
  | none =>
    have hf := x_on hf
    refine lv_ifnonnullN hx hb dX9_tell_1 ?_
    refine lv_lconst (v := 0) hx hb dX9_tell_4 rfl ?_
    cases hf
    exact x_lret C hR hS dX9_tell_5
  | some r1 =>
    have hf := x_os hf
    refine lv_ifnonnull (tgt := 6) hx hb dX9_tell_1 rfl ?_
    refine lv_lconst (v := 0) hx hb dX9_tell_6 rfl ?_
    refine lv_lstore_n (lv' := [(2, _), (0, _), (1, _)]) hx hb dX9_tell_7 rfl hl (Nat.le_of_ble_eq_true rfl) rfl (fun ls hl => ?_)
    refine lv_iconst (v := 0) hx hb dX9_tell_8 rfl ?_
    refine lv_istore (lv' := [(4, _), (2, _), (0, _), (1, _)]) hx hb dX9_tell_9 hl (Nat.le_of_ble_eq_true rfl) rfl (fun ls hl => ?_)
    refine lv_iconst (v := 0) hx hb dX9_tell_11 rfl ?_
    refine lv_istore (lv' := [(5, _), (4, _), (2, _), (0, _), (1, _)]) hx hb dX9_tell_12 hl (Nat.le_of_ble_eq_true rfl) rfl (fun ls hl => ?_)
    exact B_X9_tell_14  C  x_FU ls _ _ h _ _ _ _ (k1 r1 rfl) (lv_sub hl [3, 4, 2, 1, 0] rfl) hR hS hf
def f_X9_heldBy (K : XK) (x : Nat) (h : XH) (v1 : Option Nat) : Option (Int32 × XH) := Option.bind (f_X9_tell K x h v1) (fun q1 => some ((if 0 ≤ (lg_cmp q1.1 0) then (if (lg_cmp q1.1 100) ≤ 0 then q1.1.toInt32 else 100) else 0), q1.2))
set_option maxRecDepth 20000 in
theorem S_X9_heldBy {l : Launch} {O : XO} {K : XK} {h : XH} {v1 : Option Nat}  {r : Int32} {h' : XH} (k1 : ∀ r, v1 = some r → K r = (11, 0)) (hf : f_X9_heldBy K (oX O) h v1 = some (r, h')) : x_M l O K yX9_heldBy cX9_heldBy 4 (some .int) 2 55 h [.ref (oX O + 43), va_rf v1] (some (.int r)) h' := by
  refine x_enter (by decide) (by cases v1 <;> exact Nat.le_of_ble_eq_true rfl) (fun p e s m args below meth c C hR ls hl => ?_)
  have hS : va_S (oA O) s.heap s.heap [] := va_S.rf
  have hx := C.1
  have hb := C.2.1
  have hl : lv_has ls 4 [(0, .ref (oX O + 43)), (1, va_rf v1)] := by cases v1 <;> exact hl
  rw [f_X9_heldBy] at hf
  refine lv_aload_n hx hb dX9_heldBy_0 rfl (lv_at hl 0 rfl) ?_
  refine x_aloadq_n hx hb dX9_heldBy_1 rfl (lv_at hl 1 rfl) ?_
  obtain ⟨q1, eq1, hf⟩ := x_bd hf
  refine x_cVl1 C hR hS (S_X9_tell k1 eq1) (x_k hR 43 rfl) (by decide) rfl mf_X9_tell tw_1129 (Nat.le_of_ble_eq_true rfl) (Nat.le_of_ble_eq_true rfl) hl.1 (Nat.le_of_ble_eq_true rfl) dX9_heldBy_2 ⟨Nat.le_refl _, Nat.le_refl _⟩ (fun H locs hR hS => ?_)
  refine lv_lstore_n (lv' := [(2, .long q1.1), (0, .ref (oX O + 43)), (1, va_rf v1)]) hx hb dX9_heldBy_5 rfl hl (Nat.le_of_ble_eq_true rfl) (by cases v1 <;> rfl) (fun ls hl => ?_)
  refine lv_lload_n hx hb dX9_heldBy_6 rfl (lv_at hl 0 rfl) ?_
  refine lv_lconst (v := 0) hx hb dX9_heldBy_7 rfl ?_
  refine W.lcmp hx hb dX9_heldBy_8 ?_
  have kM2 : ∀ (ls : Array Slot) (H : Heap) (locs : List Loc), lv_has ls 4 [] → x_R O K q1.2 H → va_S (oA O) s.heap H locs → W p l e (x_rm 2 55) s m args below meth c H locs 0 0 (MQ below (x_Qc O K h' (some (.int r))) args s 0 0 (oA O)) (F0 m 31 ls [.int (if 0 ≤ (lg_cmp q1.1 0) then (if (lg_cmp q1.1 100) ≤ 0 then q1.1.toInt32 else 100) else 0)]) := by
    intro ls H locs hl hR hS
    cases hf
    exact x_iret C hR hS dX9_heldBy_31
  refine lv_if_ge (tgt := 16) hx hb dX9_heldBy_9 rfl (fun hc => ?_) (fun hc => ?_)
  · try simp only [if_pos hc] at kM2
    refine lv_lload_n hx hb dX9_heldBy_16 rfl (lv_at hl 0 rfl) ?_
    refine lv_ldc2 hx hb C.2.2.2.1 (C.2.2.2.2.1 _ tw_1137) dX9_heldBy_17 ?_
    refine W.lcmp hx hb dX9_heldBy_20 ?_
    refine lv_if_le (tgt := 29) hx hb dX9_heldBy_21 rfl (fun hc => ?_) (fun hc => ?_)
    · try simp only [if_pos hc] at kM2
      refine lv_lload_n hx hb dX9_heldBy_29 rfl (lv_at hl 0 rfl) ?_
      refine lv_l2i hx hb dX9_heldBy_30 rfl ?_
      exact kM2 ls _ _ (lv_sub hl [] rfl) hR hS
    · try simp only [if_neg hc] at kM2
      refine lv_bipush (v := 100) hx hb dX9_heldBy_24 rfl ?_
      refine lv_goto (tgt := 31) hx hb dX9_heldBy_26 rfl ?_
      exact kM2 ls _ _ (lv_sub hl [] rfl) hR hS
  · try simp only [if_neg hc] at kM2
    refine lv_iconst (v := 0) hx hb dX9_heldBy_12 rfl ?_
    refine lv_goto (tgt := 31) hx hb dX9_heldBy_13 rfl ?_
    exact kM2 ls _ _ (lv_sub hl [] rfl) hR hS
def f_X9_scoreOf (K : XK) (x : Nat) (h : XH) (v1 : Option Nat) (v2 : Int32) (v3 : Int32) (v4 : Int32) : Option (Int64 × XH) := if x_b 0 10 = true then x_let (x_i h (x + 44) (0 : Int32).toNatClampNeg v2) (fun h2 => if x_b 1 10 = true then x_let (x_i h2 (x + 44) (1 : Int32).toNatClampNeg ((v4 - v2) - v3)) (fun h4 => if x_b 2 10 = true then x_let (x_i h4 (x + 44) (2 : Int32).toNatClampNeg v3) (fun h6 => if x_b 3 10 = true then x_let (x_i h6 (x + 44) (3 : Int32).toNatClampNeg v4) (fun h8 => if x_b 4 10 = true then x_let (x_i h8 (x + 44) (4 : Int32).toNatClampNeg (if v2 = v4 then 1 else 0)) (fun h11 => Option.bind (f_X9_tell K x h11 v1) (fun q12 => some (q12.1, q12.2))) else none) else none) else none) else none) else none
set_option maxRecDepth 20000 in
theorem S_X9_scoreOf {l : Launch} {O : XO} {K : XK} {h : XH} {v1 : Option Nat} {v2 : Int32} {v3 : Int32} {v4 : Int32}  {r : Int64} {h' : XH} (k1 : ∀ r, v1 = some r → K r = (11, 0)) (hf : f_X9_scoreOf K (oX O) h v1 v2 v3 v4 = some (r, h')) : x_M l O K yX9_scoreOf cX9_scoreOf 5 (some .long) 2 55 h [.ref (oX O + 43), va_rf v1, .int v2, .int v3, .int v4] (some (.long r)) h' := by
  refine x_enter (by decide) (by cases v1 <;> exact Nat.le_of_ble_eq_true rfl) (fun p e s m args below meth c C hR ls hl => ?_)
  have hS : va_S (oA O) s.heap s.heap [] := va_S.rf
  have hx := C.1
  have hb := C.2.1
  have hl : lv_has ls 5 [(0, .ref (oX O + 43)), (1, va_rf v1), (2, .int v2), (3, .int v3), (4, .int v4)] := by cases v1 <;> exact hl
  rw [f_X9_scoreOf] at hf
  refine lv_aload_n hx hb dX9_scoreOf_0 rfl (lv_at hl 0 rfl) ?_
  refine gf_9_0 C hR (x_k hR 43 rfl) tw_374 dX9_scoreOf_1 ?_
  refine lv_iconst (v := 0) hx hb dX9_scoreOf_4 rfl ?_
  refine lv_iload_n hx hb dX9_scoreOf_5 rfl (lv_at hl 2 rfl) ?_
  obtain ⟨g1, hf⟩ := x_gd hf
  obtain ⟨h2, eh2, hf⟩ := x_lt hf
  refine x_iast C hR hS (x_k1 (x_k hR 44 rfl)) (x_k2 (x_k hR 44 rfl) g1) dX9_scoreOf_6 (fun H locs hR hS => ?_)
  rw [← eh2] at hR
  refine lv_aload_n hx hb dX9_scoreOf_7 rfl (lv_at hl 0 rfl) ?_
  refine gf_9_0 C hR (x_k hR 43 rfl) tw_374 dX9_scoreOf_8 ?_
  refine lv_iconst (v := 1) hx hb dX9_scoreOf_11 rfl ?_
  refine lv_iload hx hb dX9_scoreOf_12 (lv_at hl 4 rfl) ?_
  refine lv_iload_n hx hb dX9_scoreOf_14 rfl (lv_at hl 2 rfl) ?_
  refine lv_isub hx hb dX9_scoreOf_15 ?_
  refine lv_iload_n hx hb dX9_scoreOf_16 rfl (lv_at hl 3 rfl) ?_
  refine lv_isub hx hb dX9_scoreOf_17 ?_
  obtain ⟨g3, hf⟩ := x_gd hf
  obtain ⟨h4, eh4, hf⟩ := x_lt hf
  refine x_iast C hR hS (x_k1 (x_k hR 44 rfl)) (x_k2 (x_k hR 44 rfl) g3) dX9_scoreOf_18 (fun H locs hR hS => ?_)
  rw [← eh4] at hR
  refine lv_aload_n hx hb dX9_scoreOf_19 rfl (lv_at hl 0 rfl) ?_
  refine gf_9_0 C hR (x_k hR 43 rfl) tw_374 dX9_scoreOf_20 ?_
  refine lv_iconst (v := 2) hx hb dX9_scoreOf_23 rfl ?_
  refine lv_iload_n hx hb dX9_scoreOf_24 rfl (lv_at hl 3 rfl) ?_
  obtain ⟨g5, hf⟩ := x_gd hf
  obtain ⟨h6, eh6, hf⟩ := x_lt hf
  refine x_iast C hR hS (x_k1 (x_k hR 44 rfl)) (x_k2 (x_k hR 44 rfl) g5) dX9_scoreOf_25 (fun H locs hR hS => ?_)
  rw [← eh6] at hR
  refine lv_aload_n hx hb dX9_scoreOf_26 rfl (lv_at hl 0 rfl) ?_
  refine gf_9_0 C hR (x_k hR 43 rfl) tw_374 dX9_scoreOf_27 ?_
  refine lv_iconst (v := 3) hx hb dX9_scoreOf_30 rfl ?_
  refine lv_iload hx hb dX9_scoreOf_31 (lv_at hl 4 rfl) ?_
  obtain ⟨g7, hf⟩ := x_gd hf
  obtain ⟨h8, eh8, hf⟩ := x_lt hf
  refine x_iast C hR hS (x_k1 (x_k hR 44 rfl)) (x_k2 (x_k hR 44 rfl) g7) dX9_scoreOf_33 (fun H locs hR hS => ?_)
  rw [← eh8] at hR
  refine lv_aload_n hx hb dX9_scoreOf_34 rfl (lv_at hl 0 rfl) ?_
  refine gf_9_0 C hR (x_k hR 43 rfl) tw_374 dX9_scoreOf_35 ?_
  refine lv_iconst (v := 4) hx hb dX9_scoreOf_38 rfl ?_
  refine lv_iload_n hx hb dX9_scoreOf_39 rfl (lv_at hl 2 rfl) ?_
  refine lv_iload hx hb dX9_scoreOf_40 (lv_at hl 4 rfl) ?_
  have kM9 : ∀ (ls : Array Slot) (H : Heap) (locs : List Loc), lv_has ls 5 [(0, .ref (oX O + 43)), (1, va_rf v1)] → x_R O K h8 H → va_S (oA O) s.heap H locs → W p l e (x_rm 2 55) s m args below meth c H locs 0 0 (MQ below (x_Qc O K h' (some (.long r))) args s 0 0 (oA O)) (F0 m 50 ls [.int (if v2 = v4 then 1 else 0), .int 4, .ref (oX O + 44)]) := by
    intro ls H locs hl hR hS
    obtain ⟨g10, hf⟩ := x_gd hf
    obtain ⟨h11, eh11, hf⟩ := x_lt hf
    refine x_iast C hR hS (x_k1 (x_k hR 44 rfl)) (x_k2 (x_k hR 44 rfl) g10) dX9_scoreOf_50 (fun H locs hR hS => ?_)
    rw [← eh11] at hR
    refine lv_aload_n hx hb dX9_scoreOf_51 rfl (lv_at hl 0 rfl) ?_
    refine x_aloadq_n hx hb dX9_scoreOf_52 rfl (lv_at hl 1 rfl) ?_
    obtain ⟨q12, eq12, hf⟩ := x_bd hf
    refine x_cVl1 C hR hS (S_X9_tell k1 eq12) (x_k hR 43 rfl) (by decide) rfl mf_X9_tell tw_1129 (Nat.le_of_ble_eq_true rfl) (Nat.le_of_ble_eq_true rfl) hl.1 (Nat.le_of_ble_eq_true rfl) dX9_scoreOf_53 ⟨Nat.le_refl _, Nat.le_refl _⟩ (fun H locs hR hS => ?_)
    cases hf
    exact x_lret C hR hS dX9_scoreOf_56
  refine lv_icmp_ne (tgt := 49) hx hb dX9_scoreOf_42 rfl (fun hc => ?_) (fun hc => ?_)
  · try simp only [if_neg hc] at kM9
    refine lv_iconst (v := 0) hx hb dX9_scoreOf_49 rfl ?_
    exact kM9 ls _ _ (lv_sub hl [0, 1] rfl) hR hS
  · try simp only [if_pos hc] at kM9
    refine lv_iconst (v := 1) hx hb dX9_scoreOf_45 rfl ?_
    refine lv_goto (tgt := 50) hx hb dX9_scoreOf_46 rfl ?_
    exact kM9 ls _ _ (lv_sub hl [0, 1] rfl) hR hS
def f_X12_held (x : Nat) (h : XH) (v1 : Int32) : Option (Int32 × XH) := Option.bind (f_X12_told x h v1) (fun q1 => some ((f_J9_max_7cf53 q1.2 0 (f_J9_min_7cf53 q1.2 100 q1.1)), q1.2))
set_option maxRecDepth 20000 in
theorem S_X12_held {l : Launch} {O : XO} {K : XK} {h : XH} {v1 : Int32}  {r : Int32} {h' : XH}  (hf : f_X12_held (oX O) h v1 = some (r, h')) : x_M l O K yX12_held cX12_held 2 (some .int) 3 73 h [.ref (oX O + 64), .int v1] (some (.int r)) h' := by
  refine x_enter (by decide) (Nat.le_of_ble_eq_true rfl) (fun p e s m args below meth c C hR ls hl => ?_)
  have hS : va_S (oA O) s.heap s.heap [] := va_S.rf
  have hx := C.1
  have hb := C.2.1
  have hl : lv_has ls 2 [(0, .ref (oX O + 64)), (1, .int v1)] := hl
  rw [f_X12_held] at hf
  refine lv_iconst (v := 0) hx hb dX12_held_0 rfl ?_
  refine lv_bipush (v := 100) hx hb dX12_held_1 rfl ?_
  refine lv_aload_n hx hb dX12_held_3 rfl (lv_at hl 0 rfl) ?_
  refine lv_iload_n hx hb dX12_held_4 rfl (lv_at hl 1 rfl) ?_
  obtain ⟨q1, eq1, hf⟩ := x_bd hf
  refine x_cVi1 C hR hS (S_X12_told  eq1) (x_k hR 64 rfl) (by decide) rfl mf_X12_told tw_1893 (Nat.le_of_ble_eq_true rfl) (Nat.le_of_ble_eq_true rfl) hl.1 (Nat.le_of_ble_eq_true rfl) dX12_held_5 ⟨Nat.le_refl _, Nat.le_refl _⟩ (fun H locs hR hS => ?_)
  refine x_cSi2 C hR hS (S_J9_min_7cf53  rfl) mf_J9_min_7cf53 tw_1901 (Nat.le_of_ble_eq_true rfl) (Nat.le_of_ble_eq_true rfl) hl.1 (Nat.le_of_ble_eq_true rfl) dX12_held_8 ⟨Nat.le_refl _, Nat.le_refl _⟩ (fun H locs hR hS => ?_)
  refine x_cSi2 C hR hS (S_J9_max_7cf53  rfl) mf_J9_max_7cf53 tw_1902 (Nat.le_of_ble_eq_true rfl) (Nat.le_of_ble_eq_true rfl) hl.1 (Nat.le_of_ble_eq_true rfl) dX12_held_11 ⟨Nat.le_refl _, Nat.le_refl _⟩ (fun H locs hR hS => ?_)
  cases hf
  exact x_iret C hR hS dX12_held_14
def f_X12_heldOf (x : Nat) (h : XH) (v1 : Int32) (v2 : Int32) (v3 : Int32) : Option (Int32 × XH) := if x_b 6 6927 = true then Option.bind (f_X12_ageOf x h v2 v3 (h.1 (x + 65) (6 : Int32).toNatClampNeg)) (fun v_2 => Option.bind (f_X12_of x h v2 8) (fun v_3 => Option.bind (f_X12_asks x h v2 v3 v_2 v_3) (fun h4 => Option.bind (f_X12_held x h4 v1) (fun q5 => some (q5.1, q5.2))))) else none
set_option maxRecDepth 20000 in
theorem S_X12_heldOf {l : Launch} {O : XO} {K : XK} {h : XH} {v1 : Int32} {v2 : Int32} {v3 : Int32}  {r : Int32} {h' : XH}  (hf : f_X12_heldOf (oX O) h v1 v2 v3 = some (r, h')) : x_M l O K yX12_heldOf cX12_heldOf 4 (some .int) 6 148 h [.ref (oX O + 64), .int v1, .int v2, .int v3] (some (.int r)) h' := by
  refine x_enter (by decide) (Nat.le_of_ble_eq_true rfl) (fun p e s m args below meth c C hR ls hl => ?_)
  have hS : va_S (oA O) s.heap s.heap [] := va_S.rf
  have hx := C.1
  have hb := C.2.1
  have hl : lv_has ls 4 [(0, .ref (oX O + 64)), (1, .int v1), (2, .int v2), (3, .int v3)] := hl
  rw [f_X12_heldOf] at hf
  refine lv_aload_n hx hb dX12_heldOf_0 rfl (lv_at hl 0 rfl) ?_
  refine lv_iload_n hx hb dX12_heldOf_1 rfl (lv_at hl 2 rfl) ?_
  refine lv_iload_n hx hb dX12_heldOf_2 rfl (lv_at hl 3 rfl) ?_
  refine lv_aload_n hx hb dX12_heldOf_3 rfl (lv_at hl 0 rfl) ?_
  refine lv_iload_n hx hb dX12_heldOf_4 rfl (lv_at hl 2 rfl) ?_
  refine lv_iload_n hx hb dX12_heldOf_5 rfl (lv_at hl 3 rfl) ?_
  refine lv_aload_n hx hb dX12_heldOf_6 rfl (lv_at hl 0 rfl) ?_
  refine gf_12_1 C hR (x_k hR 64 rfl) tw_1544 dX12_heldOf_7 ?_
  refine lv_bipush (v := 6) hx hb dX12_heldOf_10 rfl ?_
  obtain ⟨g1, hf⟩ := x_gd hf
  refine x_iald C hR (x_k1 (x_k hR 65 rfl)) (x_k2 (x_k hR 65 rfl) g1) dX12_heldOf_12 ?_
  obtain ⟨v_2, ev_2, hf⟩ := x_bd hf
  refine x_cVi3 C hR hS (S_X12_ageOf  ev_2) (x_k hR 64 rfl) (by decide) rfl mf_X12_ageOf tw_1849 (Nat.le_of_ble_eq_true rfl) (Nat.le_of_ble_eq_true rfl) hl.1 (Nat.le_of_ble_eq_true rfl) dX12_heldOf_13 ⟨Nat.le_refl _, Nat.le_refl _⟩ (fun H locs hR hS => ?_)
  refine lv_aload_n hx hb dX12_heldOf_16 rfl (lv_at hl 0 rfl) ?_
  refine lv_iload_n hx hb dX12_heldOf_17 rfl (lv_at hl 2 rfl) ?_
  refine lv_bipush (v := 8) hx hb dX12_heldOf_18 rfl ?_
  obtain ⟨v_3, ev_3, hf⟩ := x_bd hf
  refine x_cVi2 C hR hS (S_X12_of  ev_3) (x_k hR 64 rfl) (by decide) rfl mf_X12_of tw_1806 (Nat.le_of_ble_eq_true rfl) (Nat.le_of_ble_eq_true rfl) hl.1 (Nat.le_of_ble_eq_true rfl) dX12_heldOf_20 ⟨Nat.le_refl _, Nat.le_refl _⟩ (fun H locs hR hS => ?_)
  obtain ⟨h4, eh4, hf⟩ := x_bd hf
  refine x_cVv4 C hR hS (S_X12_asks  eh4) (x_k hR 64 rfl) (by decide) rfl mf_X12_asks tw_1853 (Nat.le_of_ble_eq_true rfl) (Nat.le_of_ble_eq_true rfl) hl.1 (Nat.le_of_ble_eq_true rfl) dX12_heldOf_23 ⟨Nat.le_refl _, Nat.le_refl _⟩ (fun H locs hR hS => ?_)
  refine lv_aload_n hx hb dX12_heldOf_26 rfl (lv_at hl 0 rfl) ?_
  refine lv_iload_n hx hb dX12_heldOf_27 rfl (lv_at hl 1 rfl) ?_
  obtain ⟨q5, eq5, hf⟩ := x_bd hf
  refine x_cVi1 C hR hS (S_X12_held  eq5) (x_k hR 64 rfl) (by decide) rfl mf_X12_held tw_1889 (Nat.le_of_ble_eq_true rfl) (Nat.le_of_ble_eq_true rfl) hl.1 (Nat.le_of_ble_eq_true rfl) dX12_heldOf_28 ⟨Nat.le_refl _, Nat.le_refl _⟩ (fun H locs hR hS => ?_)
  cases hf
  exact x_iret C hR hS dX12_heldOf_31
def f_X12_awaitedIn_6 (x : Nat) : Nat → XH → Int32 → Int32 → Int32 → Int32 → Int32 → Option (Int32 × XH)
  | 0, _, _, _, _, _, _ => none
  | n + 1, h, v1, v2, v3, v4, v5 => Option.bind (f_X12_of x h v2 2) (fun v_1 => if v_1 ≤ v5 then some (v4, h) else if x_b 6 6927 = true then Option.bind (f_X12_ageOf x h v2 v5 ((h.1 (x + 65) (6 : Int32).toNatClampNeg) + v3)) (fun v_3 => Option.bind (f_X12_of x h v2 8) (fun v_4 => Option.bind (f_X12_asks x h v2 v5 v_3 v_4) (fun h5 => Option.bind (f_X12_held x h5 v1) (fun q6 => f_X12_awaitedIn_6 x n q6.2 v1 v2 v3 (v4 + q6.1) (v5 + 1))))) else none)
def f_X12_awaitedIn (x : Nat) (h : XH) (v1 : Int32) (v2 : Int32) (v3 : Int32) : Option (Int32 × XH) := f_X12_awaitedIn_6 x x_FU h v1 v2 v3 0 0
set_option maxRecDepth 20000 in
theorem B_X12_awaitedIn_6 {p : Program} {l : Launch} {e : Env} {s : State} {m : MethodId} {args : Array Value} {below : List Frame} {meth : Method} {c : Code} {O : XO} {K : XK} {r : Int32} {h' : XH}   (C : x_C p s m args meth c O cX12_awaitedIn 6 RX12 (some .int))   : ∀ (n : Nat) (ls : Array Slot) (H : Heap) (locs : List Loc) (h : XH) (v1 : Int32) (v2 : Int32) (v3 : Int32) (v4 : Int32) (v5 : Int32) (hl : lv_has ls 6 [(0, .ref (oX O + 64)), (1, .int v1), (2, .int v2), (3, .int v3), (4, .int v4), (5, .int v5)]) (hR : x_R O K h H) (hS : va_S (oA O) s.heap H locs) (hf : f_X12_awaitedIn_6 (oX O) n h v1 v2 v3 v4 v5 = some (r, h')), W p l e (x_rm 6 148) s m args below meth c H locs 0 0 (MQ below (x_Qc O K h' (some (.int r))) args s 0 0 (oA O)) (F0 m 6 ls []) := by
  have hx := C.1
  have hb := C.2.1
  intro n
  induction n with
  | zero =>
    intro ls H locs h v1 v2 v3 v4 v5 hl hR hS hf
    rw [f_X12_awaitedIn_6] at hf
    cases hf
  | succ n ih =>
    intro ls H locs h v1 v2 v3 v4 v5 hl hR hS hf
    rw [f_X12_awaitedIn_6] at hf
    refine lv_iload hx hb dX12_awaitedIn_6 (lv_at hl 5 rfl) ?_
    refine lv_aload_n hx hb dX12_awaitedIn_8 rfl (lv_at hl 0 rfl) ?_
    refine lv_iload_n hx hb dX12_awaitedIn_9 rfl (lv_at hl 2 rfl) ?_
    refine lv_iconst (v := 2) hx hb dX12_awaitedIn_10 rfl ?_
    obtain ⟨v_1, ev_1, hf⟩ := x_bd hf
    refine x_cVi2 C hR hS (S_X12_of  ev_1) (x_k hR 64 rfl) (by decide) rfl mf_X12_of tw_1806 (Nat.le_of_ble_eq_true rfl) (Nat.le_of_ble_eq_true rfl) hl.1 (Nat.le_of_ble_eq_true rfl) dX12_awaitedIn_11 ⟨Nat.le_refl _, Nat.le_refl _⟩ (fun H locs hR hS => ?_)
    refine lv_icmp_ge (tgt := 63) hx hb dX12_awaitedIn_14 rfl (fun hc => ?_) (fun hc => ?_)
    · have hf := x_ip hc hf
      refine lv_iload hx hb dX12_awaitedIn_63 (lv_at hl 4 rfl) ?_
      cases hf
      exact x_iret C hR hS dX12_awaitedIn_65
    · have hf := x_in hc hf
      refine lv_aload_n hx hb dX12_awaitedIn_17 rfl (lv_at hl 0 rfl) ?_
      refine lv_iload_n hx hb dX12_awaitedIn_18 rfl (lv_at hl 2 rfl) ?_
      refine lv_iload hx hb dX12_awaitedIn_19 (lv_at hl 5 rfl) ?_
      refine lv_aload_n hx hb dX12_awaitedIn_21 rfl (lv_at hl 0 rfl) ?_
      refine lv_iload_n hx hb dX12_awaitedIn_22 rfl (lv_at hl 2 rfl) ?_
      refine lv_iload hx hb dX12_awaitedIn_23 (lv_at hl 5 rfl) ?_
      refine lv_aload_n hx hb dX12_awaitedIn_25 rfl (lv_at hl 0 rfl) ?_
      refine gf_12_1 C hR (x_k hR 64 rfl) tw_1544 dX12_awaitedIn_26 ?_
      refine lv_bipush (v := 6) hx hb dX12_awaitedIn_29 rfl ?_
      obtain ⟨g2, hf⟩ := x_gd hf
      refine x_iald C hR (x_k1 (x_k hR 65 rfl)) (x_k2 (x_k hR 65 rfl) g2) dX12_awaitedIn_31 ?_
      refine lv_iload_n hx hb dX12_awaitedIn_32 rfl (lv_at hl 3 rfl) ?_
      refine lv_iadd hx hb dX12_awaitedIn_33 ?_
      obtain ⟨v_3, ev_3, hf⟩ := x_bd hf
      refine x_cVi3 C hR hS (S_X12_ageOf  ev_3) (x_k hR 64 rfl) (by decide) rfl mf_X12_ageOf tw_1849 (Nat.le_of_ble_eq_true rfl) (Nat.le_of_ble_eq_true rfl) hl.1 (Nat.le_of_ble_eq_true rfl) dX12_awaitedIn_34 ⟨Nat.le_refl _, Nat.le_refl _⟩ (fun H locs hR hS => ?_)
      refine lv_aload_n hx hb dX12_awaitedIn_37 rfl (lv_at hl 0 rfl) ?_
      refine lv_iload_n hx hb dX12_awaitedIn_38 rfl (lv_at hl 2 rfl) ?_
      refine lv_bipush (v := 8) hx hb dX12_awaitedIn_39 rfl ?_
      obtain ⟨v_4, ev_4, hf⟩ := x_bd hf
      refine x_cVi2 C hR hS (S_X12_of  ev_4) (x_k hR 64 rfl) (by decide) rfl mf_X12_of tw_1806 (Nat.le_of_ble_eq_true rfl) (Nat.le_of_ble_eq_true rfl) hl.1 (Nat.le_of_ble_eq_true rfl) dX12_awaitedIn_41 ⟨Nat.le_refl _, Nat.le_refl _⟩ (fun H locs hR hS => ?_)
      obtain ⟨h5, eh5, hf⟩ := x_bd hf
      refine x_cVv4 C hR hS (S_X12_asks  eh5) (x_k hR 64 rfl) (by decide) rfl mf_X12_asks tw_1853 (Nat.le_of_ble_eq_true rfl) (Nat.le_of_ble_eq_true rfl) hl.1 (Nat.le_of_ble_eq_true rfl) dX12_awaitedIn_44 ⟨Nat.le_refl _, Nat.le_refl _⟩ (fun H locs hR hS => ?_)
      refine lv_iload hx hb dX12_awaitedIn_47 (lv_at hl 4 rfl) ?_
      refine lv_aload_n hx hb dX12_awaitedIn_49 rfl (lv_at hl 0 rfl) ?_
      refine lv_iload_n hx hb dX12_awaitedIn_50 rfl (lv_at hl 1 rfl) ?_
      obtain ⟨q6, eq6, hf⟩ := x_bd hf
      refine x_cVi1 C hR hS (S_X12_held  eq6) (x_k hR 64 rfl) (by decide) rfl mf_X12_held tw_1889 (Nat.le_of_ble_eq_true rfl) (Nat.le_of_ble_eq_true rfl) hl.1 (Nat.le_of_ble_eq_true rfl) dX12_awaitedIn_51 ⟨Nat.le_refl _, Nat.le_refl _⟩ (fun H locs hR hS => ?_)
      refine lv_iadd hx hb dX12_awaitedIn_54 ?_
      refine lv_istore (lv' := [(4, _), (0, _), (1, _), (2, _), (3, _), (5, _)]) hx hb dX12_awaitedIn_55 hl (Nat.le_of_ble_eq_true rfl) rfl (fun ls hl => ?_)
      refine lv_iinc (k := 5) (v := _ + 1) (lv' := [(5, _), (4, _), (0, _), (1, _), (2, _), (3, _)]) hx hb dX12_awaitedIn_57 hl rfl (x_inc 1 1 rfl _) (Nat.le_of_ble_eq_true rfl) rfl (fun ls hl => ?_)
      refine lv_goto (tgt := 6) hx hb dX12_awaitedIn_60 rfl ?_
      exact ih ls _ _ q6.2 _ _ _ _ _  (lv_sub hl [2, 3, 4, 5, 1, 0] rfl) hR hS hf
set_option maxRecDepth 20000 in
theorem S_X12_awaitedIn {l : Launch} {O : XO} {K : XK} {h : XH} {v1 : Int32} {v2 : Int32} {v3 : Int32}  {r : Int32} {h' : XH}  (hf : f_X12_awaitedIn (oX O) h v1 v2 v3 = some (r, h')) : x_M l O K yX12_awaitedIn cX12_awaitedIn 6 (some .int) 6 148 h [.ref (oX O + 64), .int v1, .int v2, .int v3] (some (.int r)) h' := by
  refine x_enter (by decide) (Nat.le_of_ble_eq_true rfl) (fun p e s m args below meth c C hR ls hl => ?_)
  have hS : va_S (oA O) s.heap s.heap [] := va_S.rf
  have hx := C.1
  have hb := C.2.1
  have hl : lv_has ls 6 [(0, .ref (oX O + 64)), (1, .int v1), (2, .int v2), (3, .int v3)] := hl
  rw [f_X12_awaitedIn] at hf
  refine lv_iconst (v := 0) hx hb dX12_awaitedIn_0 rfl ?_
  refine lv_istore (lv' := [(4, _), (0, _), (1, _), (2, _), (3, _)]) hx hb dX12_awaitedIn_1 hl (Nat.le_of_ble_eq_true rfl) rfl (fun ls hl => ?_)
  refine lv_iconst (v := 0) hx hb dX12_awaitedIn_3 rfl ?_
  refine lv_istore (lv' := [(5, _), (4, _), (0, _), (1, _), (2, _), (3, _)]) hx hb dX12_awaitedIn_4 hl (Nat.le_of_ble_eq_true rfl) rfl (fun ls hl => ?_)
  exact B_X12_awaitedIn_6  C  x_FU ls _ _ h _ _ _ _ _  (lv_sub hl [2, 3, 4, 5, 1, 0] rfl) hR hS hf
def f_X12_holds_56 (x : Nat) (h : XH) : Option (Int32 × XH) := some (0, h)
def f_X12_holds_28 (x : Nat) (h : XH) (v1 : Int32) (v2 : Int32) (v3 : Int32) (s1 : Int32) : Option (Int32 × XH) := Option.bind (f_X12_throwsIf x h s1 1) (fun q3 => if q3.1 = 0 then Option.bind (f_X12_isPut x q3.2 v2) (fun v_4 => Option.bind (f_X12_throwsIf x q3.2 (if v_4 = 0 then 1 else 0) 2) (fun q6 => if q6.1 = 0 then Option.bind (f_X12_heldOf x q6.2 v1 v2 v3) (fun q7 => some (q7.1, q7.2)) else f_X12_holds_56 x q6.2)) else f_X12_holds_56 x q3.2)
def f_X12_holds_23 (x : Nat) (h : XH) (v1 : Int32) (v2 : Int32) (v3 : Int32) : Option (Int32 × XH) := f_X12_holds_28 x h v1 v2 v3 1
def f_X12_holds (x : Nat) (h : XH) (v1 : Int32) (v2 : Int32) (v3 : Int32) : Option (Int32 × XH) := x_let (x_i h (x + 64) 0 0) (fun h1 => Option.bind (f_X12_noLaw x h1 v1) (fun v_2 => if v_2 = 0 then Option.bind (f_X12_noPlace x h1 v2 v3) (fun v_8 => Option.bind (f_X12_throwsIf x h1 (if v_8 = 0 then 0 else 1) 1) (fun q10 => if q10.1 = 0 then Option.bind (f_X12_isPut x q10.2 v2) (fun v_11 => Option.bind (f_X12_throwsIf x q10.2 (if v_11 = 0 then 1 else 0) 2) (fun q13 => if q13.1 = 0 then Option.bind (f_X12_heldOf x q13.2 v1 v2 v3) (fun q14 => some (q14.1, q14.2)) else f_X12_holds_56 x q13.2)) else f_X12_holds_56 x q10.2)) else f_X12_holds_23 x h1 v1 v2 v3))
set_option maxRecDepth 20000 in
theorem B_X12_holds_56 {p : Program} {l : Launch} {e : Env} {s : State} {m : MethodId} {args : Array Value} {below : List Frame} {meth : Method} {c : Code} {O : XO} {K : XK} {r : Int32} {h' : XH}   (C : x_C p s m args meth c O cX12_holds 4 RX12 (some .int))   (ls : Array Slot) (H : Heap) (locs : List Loc) (h : XH) (hl : lv_has ls 4 []) (hR : x_R O K h H) (hS : va_S (oA O) s.heap H locs) (hf : f_X12_holds_56 (oX O) h = some (r, h')) : W p l e (x_rm 7 171) s m args below meth c H locs 0 0 (MQ below (x_Qc O K h' (some (.int r))) args s 0 0 (oA O)) (F0 m 56 ls []) := by
  have hx := C.1
  have hb := C.2.1
  rw [f_X12_holds_56] at hf
  refine lv_iconst (v := 0) hx hb dX12_holds_56 rfl ?_
  refine lv_goto (tgt := 67) hx hb dX12_holds_57 rfl ?_
  cases hf
  exact x_iret C hR hS dX12_holds_67
set_option maxRecDepth 20000 in
theorem B_X12_holds_28 {p : Program} {l : Launch} {e : Env} {s : State} {m : MethodId} {args : Array Value} {below : List Frame} {meth : Method} {c : Code} {O : XO} {K : XK} {r : Int32} {h' : XH}   (C : x_C p s m args meth c O cX12_holds 4 RX12 (some .int))   (ls : Array Slot) (H : Heap) (locs : List Loc) (h : XH) (v1 : Int32) (v2 : Int32) (v3 : Int32) (s1 : Int32) (hl : lv_has ls 4 [(0, .ref (oX O + 64)), (1, .int v1), (2, .int v2), (3, .int v3)]) (hR : x_R O K h H) (hS : va_S (oA O) s.heap H locs) (hf : f_X12_holds_28 (oX O) h v1 v2 v3 s1 = some (r, h')) : W p l e (x_rm 7 171) s m args below meth c H locs 0 0 (MQ below (x_Qc O K h' (some (.int r))) args s 0 0 (oA O)) (F0 m 28 ls [.int s1, .ref (oX O + 64)]) := by
  have hx := C.1
  have hb := C.2.1
  rw [f_X12_holds_28] at hf
  refine lv_iconst (v := 1) hx hb dX12_holds_28 rfl ?_
  obtain ⟨q3, eq3, hf⟩ := x_bd hf
  refine x_cVi2 C hR hS (S_X12_throwsIf  eq3) (x_k hR 64 rfl) (by decide) rfl mf_X12_throwsIf tw_1741 (Nat.le_of_ble_eq_true rfl) (Nat.le_of_ble_eq_true rfl) hl.1 (Nat.le_of_ble_eq_true rfl) dX12_holds_29 ⟨Nat.le_refl _, Nat.le_refl _⟩ (fun H locs hR hS => ?_)
  refine lv_if_ne (tgt := 56) hx hb dX12_holds_32 rfl (fun hc => ?_) (fun hc => ?_)
  · have hf := x_in hc hf
    exact B_X12_holds_56  C   ls _ _ q3.2  (lv_sub hl [] rfl) hR hS hf
  · have hf := x_ip hc hf
    refine lv_aload_n hx hb dX12_holds_35 rfl (lv_at hl 0 rfl) ?_
    refine lv_aload_n hx hb dX12_holds_36 rfl (lv_at hl 0 rfl) ?_
    refine lv_iload_n hx hb dX12_holds_37 rfl (lv_at hl 2 rfl) ?_
    obtain ⟨v_4, ev_4, hf⟩ := x_bd hf
    refine x_cVi1 C hR hS (S_X12_isPut  ev_4) (x_k hR 64 rfl) (by decide) rfl mf_X12_isPut tw_1818 (Nat.le_of_ble_eq_true rfl) (Nat.le_of_ble_eq_true rfl) hl.1 (Nat.le_of_ble_eq_true rfl) dX12_holds_38 ⟨Nat.le_refl _, Nat.le_refl _⟩ (fun H locs hR hS => ?_)
    have kM5 : ∀ (ls : Array Slot) (H : Heap) (locs : List Loc), lv_has ls 4 [(0, .ref (oX O + 64)), (1, .int v1), (2, .int v2), (3, .int v3)] → x_R O K q3.2 H → va_S (oA O) s.heap H locs → W p l e (x_rm 7 171) s m args below meth c H locs 0 0 (MQ below (x_Qc O K h' (some (.int r))) args s 0 0 (oA O)) (F0 m 49 ls [.int (if v_4 = 0 then 1 else 0), .ref (oX O + 64)]) := by
      intro ls H locs hl hR hS
      refine lv_iconst (v := 2) hx hb dX12_holds_49 rfl ?_
      obtain ⟨q6, eq6, hf⟩ := x_bd hf
      refine x_cVi2 C hR hS (S_X12_throwsIf  eq6) (x_k hR 64 rfl) (by decide) rfl mf_X12_throwsIf tw_1741 (Nat.le_of_ble_eq_true rfl) (Nat.le_of_ble_eq_true rfl) hl.1 (Nat.le_of_ble_eq_true rfl) dX12_holds_50 ⟨Nat.le_refl _, Nat.le_refl _⟩ (fun H locs hR hS => ?_)
      refine lv_if_eq (tgt := 60) hx hb dX12_holds_53 rfl (fun hc => ?_) (fun hc => ?_)
      · have hf := x_ip hc hf
        refine lv_aload_n hx hb dX12_holds_60 rfl (lv_at hl 0 rfl) ?_
        refine lv_iload_n hx hb dX12_holds_61 rfl (lv_at hl 1 rfl) ?_
        refine lv_iload_n hx hb dX12_holds_62 rfl (lv_at hl 2 rfl) ?_
        refine lv_iload_n hx hb dX12_holds_63 rfl (lv_at hl 3 rfl) ?_
        obtain ⟨q7, eq7, hf⟩ := x_bd hf
        refine x_cVi3 C hR hS (S_X12_heldOf  eq7) (x_k hR 64 rfl) (by decide) rfl mf_X12_heldOf tw_1885 (Nat.le_of_ble_eq_true rfl) (Nat.le_of_ble_eq_true rfl) hl.1 (Nat.le_of_ble_eq_true rfl) dX12_holds_64 ⟨Nat.le_refl _, Nat.le_refl _⟩ (fun H locs hR hS => ?_)
        cases hf
        exact x_iret C hR hS dX12_holds_67
      · have hf := x_in hc hf
        exact B_X12_holds_56  C   ls _ _ q6.2  (lv_sub hl [] rfl) hR hS hf
    refine lv_if_ne (tgt := 48) hx hb dX12_holds_41 rfl (fun hc => ?_) (fun hc => ?_)
    · try simp only [if_neg hc] at kM5
      refine lv_iconst (v := 0) hx hb dX12_holds_48 rfl ?_
      exact kM5 ls _ _ (lv_sub hl [0, 1, 2, 3] rfl) hR hS
    · try simp only [if_pos hc] at kM5
      refine lv_iconst (v := 1) hx hb dX12_holds_44 rfl ?_
      refine lv_goto (tgt := 49) hx hb dX12_holds_45 rfl ?_
      exact kM5 ls _ _ (lv_sub hl [0, 1, 2, 3] rfl) hR hS
set_option maxRecDepth 20000 in
theorem B_X12_holds_23 {p : Program} {l : Launch} {e : Env} {s : State} {m : MethodId} {args : Array Value} {below : List Frame} {meth : Method} {c : Code} {O : XO} {K : XK} {r : Int32} {h' : XH}   (C : x_C p s m args meth c O cX12_holds 4 RX12 (some .int))   (ls : Array Slot) (H : Heap) (locs : List Loc) (h : XH) (v1 : Int32) (v2 : Int32) (v3 : Int32) (hl : lv_has ls 4 [(0, .ref (oX O + 64)), (1, .int v1), (2, .int v2), (3, .int v3)]) (hR : x_R O K h H) (hS : va_S (oA O) s.heap H locs) (hf : f_X12_holds_23 (oX O) h v1 v2 v3 = some (r, h')) : W p l e (x_rm 7 171) s m args below meth c H locs 0 0 (MQ below (x_Qc O K h' (some (.int r))) args s 0 0 (oA O)) (F0 m 23 ls [.ref (oX O + 64)]) := by
  have hx := C.1
  have hb := C.2.1
  rw [f_X12_holds_23] at hf
  refine lv_iconst (v := 1) hx hb dX12_holds_23 rfl ?_
  refine lv_goto (tgt := 28) hx hb dX12_holds_24 rfl ?_
  exact B_X12_holds_28  C   ls _ _ h _ _ _ _  (lv_sub hl [0, 1, 2, 3] rfl) hR hS hf
set_option maxRecDepth 20000 in
theorem S_X12_holds {l : Launch} {O : XO} {K : XK} {h : XH} {v1 : Int32} {v2 : Int32} {v3 : Int32}  {r : Int32} {h' : XH}  (hf : f_X12_holds (oX O) h v1 v2 v3 = some (r, h')) : x_M l O K yX12_holds cX12_holds 4 (some .int) 7 171 h [.ref (oX O + 64), .int v1, .int v2, .int v3] (some (.int r)) h' := by
  refine x_enter (by decide) (Nat.le_of_ble_eq_true rfl) (fun p e s m args below meth c C hR ls hl => ?_)
  have hS : va_S (oA O) s.heap s.heap [] := va_S.rf
  have hx := C.1
  have hb := C.2.1
  have hl : lv_has ls 4 [(0, .ref (oX O + 64)), (1, .int v1), (2, .int v2), (3, .int v3)] := hl
  rw [f_X12_holds] at hf
  refine lv_aload_n hx hb dX12_holds_0 rfl (lv_at hl 0 rfl) ?_
  refine lv_iconst (v := 0) hx hb dX12_holds_1 rfl ?_
  obtain ⟨h1, eh1, hf⟩ := x_lt hf
  refine pf_12_0 C hR hS (x_k hR 64 rfl) tw_1543 dX12_holds_2 (fun H locs hR hS => ?_)
  rw [← eh1] at hR
  refine lv_aload_n hx hb dX12_holds_5 rfl (lv_at hl 0 rfl) ?_
  refine lv_aload_n hx hb dX12_holds_6 rfl (lv_at hl 0 rfl) ?_
  refine lv_iload_n hx hb dX12_holds_7 rfl (lv_at hl 1 rfl) ?_
  obtain ⟨v_2, ev_2, hf⟩ := x_bd hf
  refine x_cVi1 C hR hS (S_X12_noLaw  ev_2) (x_k hR 64 rfl) (by decide) rfl mf_X12_noLaw tw_1881 (Nat.le_of_ble_eq_true rfl) (Nat.le_of_ble_eq_true rfl) hl.1 (Nat.le_of_ble_eq_true rfl) dX12_holds_8 ⟨Nat.le_refl _, Nat.le_refl _⟩ (fun H locs hR hS => ?_)
  refine lv_if_ne (tgt := 23) hx hb dX12_holds_11 rfl (fun hc => ?_) (fun hc => ?_)
  · have hf := x_in hc hf
    exact B_X12_holds_23  C   ls _ _ h1 _ _ _  (lv_sub hl [0, 1, 2, 3] rfl) hR hS hf
  · have hf := x_ip hc hf
    refine lv_aload_n hx hb dX12_holds_14 rfl (lv_at hl 0 rfl) ?_
    refine lv_iload_n hx hb dX12_holds_15 rfl (lv_at hl 2 rfl) ?_
    refine lv_iload_n hx hb dX12_holds_16 rfl (lv_at hl 3 rfl) ?_
    obtain ⟨v_8, ev_8, hf⟩ := x_bd hf
    refine x_cVi2 C hR hS (S_X12_noPlace  ev_8) (x_k hR 64 rfl) (by decide) rfl mf_X12_noPlace tw_1798 (Nat.le_of_ble_eq_true rfl) (Nat.le_of_ble_eq_true rfl) hl.1 (Nat.le_of_ble_eq_true rfl) dX12_holds_17 ⟨Nat.le_refl _, Nat.le_refl _⟩ (fun H locs hR hS => ?_)
    have kM9 : ∀ (ls : Array Slot) (H : Heap) (locs : List Loc), lv_has ls 4 [(0, .ref (oX O + 64)), (1, .int v1), (2, .int v2), (3, .int v3)] → x_R O K h1 H → va_S (oA O) s.heap H locs → W p l e (x_rm 7 171) s m args below meth c H locs 0 0 (MQ below (x_Qc O K h' (some (.int r))) args s 0 0 (oA O)) (F0 m 28 ls [.int (if v_8 = 0 then 0 else 1), .ref (oX O + 64)]) := by
      intro ls H locs hl hR hS
      refine lv_iconst (v := 1) hx hb dX12_holds_28 rfl ?_
      obtain ⟨q10, eq10, hf⟩ := x_bd hf
      refine x_cVi2 C hR hS (S_X12_throwsIf  eq10) (x_k hR 64 rfl) (by decide) rfl mf_X12_throwsIf tw_1741 (Nat.le_of_ble_eq_true rfl) (Nat.le_of_ble_eq_true rfl) hl.1 (Nat.le_of_ble_eq_true rfl) dX12_holds_29 ⟨Nat.le_refl _, Nat.le_refl _⟩ (fun H locs hR hS => ?_)
      refine lv_if_ne (tgt := 56) hx hb dX12_holds_32 rfl (fun hc => ?_) (fun hc => ?_)
      · have hf := x_in hc hf
        exact B_X12_holds_56  C   ls _ _ q10.2  (lv_sub hl [] rfl) hR hS hf
      · have hf := x_ip hc hf
        refine lv_aload_n hx hb dX12_holds_35 rfl (lv_at hl 0 rfl) ?_
        refine lv_aload_n hx hb dX12_holds_36 rfl (lv_at hl 0 rfl) ?_
        refine lv_iload_n hx hb dX12_holds_37 rfl (lv_at hl 2 rfl) ?_
        obtain ⟨v_11, ev_11, hf⟩ := x_bd hf
        refine x_cVi1 C hR hS (S_X12_isPut  ev_11) (x_k hR 64 rfl) (by decide) rfl mf_X12_isPut tw_1818 (Nat.le_of_ble_eq_true rfl) (Nat.le_of_ble_eq_true rfl) hl.1 (Nat.le_of_ble_eq_true rfl) dX12_holds_38 ⟨Nat.le_refl _, Nat.le_refl _⟩ (fun H locs hR hS => ?_)
        have kM12 : ∀ (ls : Array Slot) (H : Heap) (locs : List Loc), lv_has ls 4 [(0, .ref (oX O + 64)), (1, .int v1), (2, .int v2), (3, .int v3)] → x_R O K q10.2 H → va_S (oA O) s.heap H locs → W p l e (x_rm 7 171) s m args below meth c H locs 0 0 (MQ below (x_Qc O K h' (some (.int r))) args s 0 0 (oA O)) (F0 m 49 ls [.int (if v_11 = 0 then 1 else 0), .ref (oX O + 64)]) := by
          intro ls H locs hl hR hS
          refine lv_iconst (v := 2) hx hb dX12_holds_49 rfl ?_
          obtain ⟨q13, eq13, hf⟩ := x_bd hf
          refine x_cVi2 C hR hS (S_X12_throwsIf  eq13) (x_k hR 64 rfl) (by decide) rfl mf_X12_throwsIf tw_1741 (Nat.le_of_ble_eq_true rfl) (Nat.le_of_ble_eq_true rfl) hl.1 (Nat.le_of_ble_eq_true rfl) dX12_holds_50 ⟨Nat.le_refl _, Nat.le_refl _⟩ (fun H locs hR hS => ?_)
          refine lv_if_eq (tgt := 60) hx hb dX12_holds_53 rfl (fun hc => ?_) (fun hc => ?_)
          · have hf := x_ip hc hf
            refine lv_aload_n hx hb dX12_holds_60 rfl (lv_at hl 0 rfl) ?_
            refine lv_iload_n hx hb dX12_holds_61 rfl (lv_at hl 1 rfl) ?_
            refine lv_iload_n hx hb dX12_holds_62 rfl (lv_at hl 2 rfl) ?_
            refine lv_iload_n hx hb dX12_holds_63 rfl (lv_at hl 3 rfl) ?_
            obtain ⟨q14, eq14, hf⟩ := x_bd hf
            refine x_cVi3 C hR hS (S_X12_heldOf  eq14) (x_k hR 64 rfl) (by decide) rfl mf_X12_heldOf tw_1885 (Nat.le_of_ble_eq_true rfl) (Nat.le_of_ble_eq_true rfl) hl.1 (Nat.le_of_ble_eq_true rfl) dX12_holds_64 ⟨Nat.le_refl _, Nat.le_refl _⟩ (fun H locs hR hS => ?_)
            cases hf
            exact x_iret C hR hS dX12_holds_67
          · have hf := x_in hc hf
            exact B_X12_holds_56  C   ls _ _ q13.2  (lv_sub hl [] rfl) hR hS hf
        refine lv_if_ne (tgt := 48) hx hb dX12_holds_41 rfl (fun hc => ?_) (fun hc => ?_)
        · try simp only [if_neg hc] at kM12
          refine lv_iconst (v := 0) hx hb dX12_holds_48 rfl ?_
          exact kM12 ls _ _ (lv_sub hl [0, 1, 2, 3] rfl) hR hS
        · try simp only [if_pos hc] at kM12
          refine lv_iconst (v := 1) hx hb dX12_holds_44 rfl ?_
          refine lv_goto (tgt := 49) hx hb dX12_holds_45 rfl ?_
          exact kM12 ls _ _ (lv_sub hl [0, 1, 2, 3] rfl) hR hS
    refine lv_if_eq (tgt := 27) hx hb dX12_holds_20 rfl (fun hc => ?_) (fun hc => ?_)
    · try simp only [if_pos hc] at kM9
      refine lv_iconst (v := 0) hx hb dX12_holds_27 rfl ?_
      exact kM9 ls _ _ (lv_sub hl [0, 1, 2, 3] rfl) hR hS
    · try simp only [if_neg hc] at kM9
      refine lv_iconst (v := 1) hx hb dX12_holds_23 rfl ?_
      refine lv_goto (tgt := 28) hx hb dX12_holds_24 rfl ?_
      exact kM9 ls _ _ (lv_sub hl [0, 1, 2, 3] rfl) hR hS
def f_X12_awaited_55 (x : Nat) (h : XH) : Option (Int32 × XH) := some (0, h)
def f_X12_awaited_27 (x : Nat) (h : XH) (v1 : Int32) (v2 : Int32) (s1 : Int32) : Option (Int32 × XH) := Option.bind (f_X12_throwsIf x h s1 1) (fun q3 => if q3.1 = 0 then Option.bind (f_X12_isPut x q3.2 v2) (fun v_4 => Option.bind (f_X12_throwsIf x q3.2 (if v_4 = 0 then 1 else 0) 2) (fun q6 => if q6.1 = 0 then Option.bind (f_X12_awaitedIn x q6.2 v1 v2 0) (fun q7 => some (q7.1, q7.2)) else f_X12_awaited_55 x q6.2)) else f_X12_awaited_55 x q3.2)
def f_X12_awaited_22 (x : Nat) (h : XH) (v1 : Int32) (v2 : Int32) : Option (Int32 × XH) := f_X12_awaited_27 x h v1 v2 1
def f_X12_awaited (x : Nat) (h : XH) (v1 : Int32) (v2 : Int32) : Option (Int32 × XH) := x_let (x_i h (x + 64) 0 0) (fun h1 => Option.bind (f_X12_noLaw x h1 v1) (fun v_2 => if v_2 = 0 then Option.bind (f_X12_noPack x h1 v2) (fun v_8 => Option.bind (f_X12_throwsIf x h1 (if v_8 = 0 then 0 else 1) 1) (fun q10 => if q10.1 = 0 then Option.bind (f_X12_isPut x q10.2 v2) (fun v_11 => Option.bind (f_X12_throwsIf x q10.2 (if v_11 = 0 then 1 else 0) 2) (fun q13 => if q13.1 = 0 then Option.bind (f_X12_awaitedIn x q13.2 v1 v2 0) (fun q14 => some (q14.1, q14.2)) else f_X12_awaited_55 x q13.2)) else f_X12_awaited_55 x q10.2)) else f_X12_awaited_22 x h1 v1 v2))
set_option maxRecDepth 20000 in
theorem B_X12_awaited_55 {p : Program} {l : Launch} {e : Env} {s : State} {m : MethodId} {args : Array Value} {below : List Frame} {meth : Method} {c : Code} {O : XO} {K : XK} {r : Int32} {h' : XH}   (C : x_C p s m args meth c O cX12_awaited 3 RX12 (some .int))   (ls : Array Slot) (H : Heap) (locs : List Loc) (h : XH) (hl : lv_has ls 3 []) (hR : x_R O K h H) (hS : va_S (oA O) s.heap H locs) (hf : f_X12_awaited_55 (oX O) h = some (r, h')) : W p l e (x_rm 7 173) s m args below meth c H locs 0 0 (MQ below (x_Qc O K h' (some (.int r))) args s 0 0 (oA O)) (F0 m 55 ls []) := by
  have hx := C.1
  have hb := C.2.1
  rw [f_X12_awaited_55] at hf
  refine lv_iconst (v := 0) hx hb dX12_awaited_55 rfl ?_
  refine lv_goto (tgt := 66) hx hb dX12_awaited_56 rfl ?_
  cases hf
  exact x_iret C hR hS dX12_awaited_66
set_option maxRecDepth 20000 in
theorem B_X12_awaited_27 {p : Program} {l : Launch} {e : Env} {s : State} {m : MethodId} {args : Array Value} {below : List Frame} {meth : Method} {c : Code} {O : XO} {K : XK} {r : Int32} {h' : XH}   (C : x_C p s m args meth c O cX12_awaited 3 RX12 (some .int))   (ls : Array Slot) (H : Heap) (locs : List Loc) (h : XH) (v1 : Int32) (v2 : Int32) (s1 : Int32) (hl : lv_has ls 3 [(0, .ref (oX O + 64)), (1, .int v1), (2, .int v2)]) (hR : x_R O K h H) (hS : va_S (oA O) s.heap H locs) (hf : f_X12_awaited_27 (oX O) h v1 v2 s1 = some (r, h')) : W p l e (x_rm 7 173) s m args below meth c H locs 0 0 (MQ below (x_Qc O K h' (some (.int r))) args s 0 0 (oA O)) (F0 m 27 ls [.int s1, .ref (oX O + 64)]) := by
  have hx := C.1
  have hb := C.2.1
  rw [f_X12_awaited_27] at hf
  refine lv_iconst (v := 1) hx hb dX12_awaited_27 rfl ?_
  obtain ⟨q3, eq3, hf⟩ := x_bd hf
  refine x_cVi2 C hR hS (S_X12_throwsIf  eq3) (x_k hR 64 rfl) (by decide) rfl mf_X12_throwsIf tw_1741 (Nat.le_of_ble_eq_true rfl) (Nat.le_of_ble_eq_true rfl) hl.1 (Nat.le_of_ble_eq_true rfl) dX12_awaited_28 ⟨Nat.le_refl _, Nat.le_refl _⟩ (fun H locs hR hS => ?_)
  refine lv_if_ne (tgt := 55) hx hb dX12_awaited_31 rfl (fun hc => ?_) (fun hc => ?_)
  · have hf := x_in hc hf
    exact B_X12_awaited_55  C   ls _ _ q3.2  (lv_sub hl [] rfl) hR hS hf
  · have hf := x_ip hc hf
    refine lv_aload_n hx hb dX12_awaited_34 rfl (lv_at hl 0 rfl) ?_
    refine lv_aload_n hx hb dX12_awaited_35 rfl (lv_at hl 0 rfl) ?_
    refine lv_iload_n hx hb dX12_awaited_36 rfl (lv_at hl 2 rfl) ?_
    obtain ⟨v_4, ev_4, hf⟩ := x_bd hf
    refine x_cVi1 C hR hS (S_X12_isPut  ev_4) (x_k hR 64 rfl) (by decide) rfl mf_X12_isPut tw_1818 (Nat.le_of_ble_eq_true rfl) (Nat.le_of_ble_eq_true rfl) hl.1 (Nat.le_of_ble_eq_true rfl) dX12_awaited_37 ⟨Nat.le_refl _, Nat.le_refl _⟩ (fun H locs hR hS => ?_)
    have kM5 : ∀ (ls : Array Slot) (H : Heap) (locs : List Loc), lv_has ls 3 [(0, .ref (oX O + 64)), (1, .int v1), (2, .int v2)] → x_R O K q3.2 H → va_S (oA O) s.heap H locs → W p l e (x_rm 7 173) s m args below meth c H locs 0 0 (MQ below (x_Qc O K h' (some (.int r))) args s 0 0 (oA O)) (F0 m 48 ls [.int (if v_4 = 0 then 1 else 0), .ref (oX O + 64)]) := by
      intro ls H locs hl hR hS
      refine lv_iconst (v := 2) hx hb dX12_awaited_48 rfl ?_
      obtain ⟨q6, eq6, hf⟩ := x_bd hf
      refine x_cVi2 C hR hS (S_X12_throwsIf  eq6) (x_k hR 64 rfl) (by decide) rfl mf_X12_throwsIf tw_1741 (Nat.le_of_ble_eq_true rfl) (Nat.le_of_ble_eq_true rfl) hl.1 (Nat.le_of_ble_eq_true rfl) dX12_awaited_49 ⟨Nat.le_refl _, Nat.le_refl _⟩ (fun H locs hR hS => ?_)
      refine lv_if_eq (tgt := 59) hx hb dX12_awaited_52 rfl (fun hc => ?_) (fun hc => ?_)
      · have hf := x_ip hc hf
        refine lv_aload_n hx hb dX12_awaited_59 rfl (lv_at hl 0 rfl) ?_
        refine lv_iload_n hx hb dX12_awaited_60 rfl (lv_at hl 1 rfl) ?_
        refine lv_iload_n hx hb dX12_awaited_61 rfl (lv_at hl 2 rfl) ?_
        refine lv_iconst (v := 0) hx hb dX12_awaited_62 rfl ?_
        obtain ⟨q7, eq7, hf⟩ := x_bd hf
        refine x_cVi3 C hR hS (S_X12_awaitedIn  eq7) (x_k hR 64 rfl) (by decide) rfl mf_X12_awaitedIn tw_1907 (Nat.le_of_ble_eq_true rfl) (Nat.le_of_ble_eq_true rfl) hl.1 (Nat.le_of_ble_eq_true rfl) dX12_awaited_63 ⟨Nat.le_refl _, Nat.le_refl _⟩ (fun H locs hR hS => ?_)
        cases hf
        exact x_iret C hR hS dX12_awaited_66
      · have hf := x_in hc hf
        exact B_X12_awaited_55  C   ls _ _ q6.2  (lv_sub hl [] rfl) hR hS hf
    refine lv_if_ne (tgt := 47) hx hb dX12_awaited_40 rfl (fun hc => ?_) (fun hc => ?_)
    · try simp only [if_neg hc] at kM5
      refine lv_iconst (v := 0) hx hb dX12_awaited_47 rfl ?_
      exact kM5 ls _ _ (lv_sub hl [0, 1, 2] rfl) hR hS
    · try simp only [if_pos hc] at kM5
      refine lv_iconst (v := 1) hx hb dX12_awaited_43 rfl ?_
      refine lv_goto (tgt := 48) hx hb dX12_awaited_44 rfl ?_
      exact kM5 ls _ _ (lv_sub hl [0, 1, 2] rfl) hR hS
set_option maxRecDepth 20000 in
theorem B_X12_awaited_22 {p : Program} {l : Launch} {e : Env} {s : State} {m : MethodId} {args : Array Value} {below : List Frame} {meth : Method} {c : Code} {O : XO} {K : XK} {r : Int32} {h' : XH}   (C : x_C p s m args meth c O cX12_awaited 3 RX12 (some .int))   (ls : Array Slot) (H : Heap) (locs : List Loc) (h : XH) (v1 : Int32) (v2 : Int32) (hl : lv_has ls 3 [(0, .ref (oX O + 64)), (1, .int v1), (2, .int v2)]) (hR : x_R O K h H) (hS : va_S (oA O) s.heap H locs) (hf : f_X12_awaited_22 (oX O) h v1 v2 = some (r, h')) : W p l e (x_rm 7 173) s m args below meth c H locs 0 0 (MQ below (x_Qc O K h' (some (.int r))) args s 0 0 (oA O)) (F0 m 22 ls [.ref (oX O + 64)]) := by
  have hx := C.1
  have hb := C.2.1
  rw [f_X12_awaited_22] at hf
  refine lv_iconst (v := 1) hx hb dX12_awaited_22 rfl ?_
  refine lv_goto (tgt := 27) hx hb dX12_awaited_23 rfl ?_
  exact B_X12_awaited_27  C   ls _ _ h _ _ _  (lv_sub hl [0, 1, 2] rfl) hR hS hf
set_option maxRecDepth 20000 in
theorem S_X12_awaited {l : Launch} {O : XO} {K : XK} {h : XH} {v1 : Int32} {v2 : Int32}  {r : Int32} {h' : XH}  (hf : f_X12_awaited (oX O) h v1 v2 = some (r, h')) : x_M l O K yX12_awaited cX12_awaited 3 (some .int) 7 173 h [.ref (oX O + 64), .int v1, .int v2] (some (.int r)) h' := by
  refine x_enter (by decide) (Nat.le_of_ble_eq_true rfl) (fun p e s m args below meth c C hR ls hl => ?_)
  have hS : va_S (oA O) s.heap s.heap [] := va_S.rf
  have hx := C.1
  have hb := C.2.1
  have hl : lv_has ls 3 [(0, .ref (oX O + 64)), (1, .int v1), (2, .int v2)] := hl
  rw [f_X12_awaited] at hf
  refine lv_aload_n hx hb dX12_awaited_0 rfl (lv_at hl 0 rfl) ?_
  refine lv_iconst (v := 0) hx hb dX12_awaited_1 rfl ?_
  obtain ⟨h1, eh1, hf⟩ := x_lt hf
  refine pf_12_0 C hR hS (x_k hR 64 rfl) tw_1543 dX12_awaited_2 (fun H locs hR hS => ?_)
  rw [← eh1] at hR
  refine lv_aload_n hx hb dX12_awaited_5 rfl (lv_at hl 0 rfl) ?_
  refine lv_aload_n hx hb dX12_awaited_6 rfl (lv_at hl 0 rfl) ?_
  refine lv_iload_n hx hb dX12_awaited_7 rfl (lv_at hl 1 rfl) ?_
  obtain ⟨v_2, ev_2, hf⟩ := x_bd hf
  refine x_cVi1 C hR hS (S_X12_noLaw  ev_2) (x_k hR 64 rfl) (by decide) rfl mf_X12_noLaw tw_1881 (Nat.le_of_ble_eq_true rfl) (Nat.le_of_ble_eq_true rfl) hl.1 (Nat.le_of_ble_eq_true rfl) dX12_awaited_8 ⟨Nat.le_refl _, Nat.le_refl _⟩ (fun H locs hR hS => ?_)
  refine lv_if_ne (tgt := 22) hx hb dX12_awaited_11 rfl (fun hc => ?_) (fun hc => ?_)
  · have hf := x_in hc hf
    exact B_X12_awaited_22  C   ls _ _ h1 _ _  (lv_sub hl [0, 1, 2] rfl) hR hS hf
  · have hf := x_ip hc hf
    refine lv_aload_n hx hb dX12_awaited_14 rfl (lv_at hl 0 rfl) ?_
    refine lv_iload_n hx hb dX12_awaited_15 rfl (lv_at hl 2 rfl) ?_
    obtain ⟨v_8, ev_8, hf⟩ := x_bd hf
    refine x_cVi1 C hR hS (S_X12_noPack  ev_8) (x_k hR 64 rfl) (by decide) rfl mf_X12_noPack tw_1802 (Nat.le_of_ble_eq_true rfl) (Nat.le_of_ble_eq_true rfl) hl.1 (Nat.le_of_ble_eq_true rfl) dX12_awaited_16 ⟨Nat.le_refl _, Nat.le_refl _⟩ (fun H locs hR hS => ?_)
    have kM9 : ∀ (ls : Array Slot) (H : Heap) (locs : List Loc), lv_has ls 3 [(0, .ref (oX O + 64)), (1, .int v1), (2, .int v2)] → x_R O K h1 H → va_S (oA O) s.heap H locs → W p l e (x_rm 7 173) s m args below meth c H locs 0 0 (MQ below (x_Qc O K h' (some (.int r))) args s 0 0 (oA O)) (F0 m 27 ls [.int (if v_8 = 0 then 0 else 1), .ref (oX O + 64)]) := by
      intro ls H locs hl hR hS
      refine lv_iconst (v := 1) hx hb dX12_awaited_27 rfl ?_
      obtain ⟨q10, eq10, hf⟩ := x_bd hf
      refine x_cVi2 C hR hS (S_X12_throwsIf  eq10) (x_k hR 64 rfl) (by decide) rfl mf_X12_throwsIf tw_1741 (Nat.le_of_ble_eq_true rfl) (Nat.le_of_ble_eq_true rfl) hl.1 (Nat.le_of_ble_eq_true rfl) dX12_awaited_28 ⟨Nat.le_refl _, Nat.le_refl _⟩ (fun H locs hR hS => ?_)
      refine lv_if_ne (tgt := 55) hx hb dX12_awaited_31 rfl (fun hc => ?_) (fun hc => ?_)
      · have hf := x_in hc hf
        exact B_X12_awaited_55  C   ls _ _ q10.2  (lv_sub hl [] rfl) hR hS hf
      · have hf := x_ip hc hf
        refine lv_aload_n hx hb dX12_awaited_34 rfl (lv_at hl 0 rfl) ?_
        refine lv_aload_n hx hb dX12_awaited_35 rfl (lv_at hl 0 rfl) ?_
        refine lv_iload_n hx hb dX12_awaited_36 rfl (lv_at hl 2 rfl) ?_
        obtain ⟨v_11, ev_11, hf⟩ := x_bd hf
        refine x_cVi1 C hR hS (S_X12_isPut  ev_11) (x_k hR 64 rfl) (by decide) rfl mf_X12_isPut tw_1818 (Nat.le_of_ble_eq_true rfl) (Nat.le_of_ble_eq_true rfl) hl.1 (Nat.le_of_ble_eq_true rfl) dX12_awaited_37 ⟨Nat.le_refl _, Nat.le_refl _⟩ (fun H locs hR hS => ?_)
        have kM12 : ∀ (ls : Array Slot) (H : Heap) (locs : List Loc), lv_has ls 3 [(0, .ref (oX O + 64)), (1, .int v1), (2, .int v2)] → x_R O K q10.2 H → va_S (oA O) s.heap H locs → W p l e (x_rm 7 173) s m args below meth c H locs 0 0 (MQ below (x_Qc O K h' (some (.int r))) args s 0 0 (oA O)) (F0 m 48 ls [.int (if v_11 = 0 then 1 else 0), .ref (oX O + 64)]) := by
          intro ls H locs hl hR hS
          refine lv_iconst (v := 2) hx hb dX12_awaited_48 rfl ?_
          obtain ⟨q13, eq13, hf⟩ := x_bd hf
          refine x_cVi2 C hR hS (S_X12_throwsIf  eq13) (x_k hR 64 rfl) (by decide) rfl mf_X12_throwsIf tw_1741 (Nat.le_of_ble_eq_true rfl) (Nat.le_of_ble_eq_true rfl) hl.1 (Nat.le_of_ble_eq_true rfl) dX12_awaited_49 ⟨Nat.le_refl _, Nat.le_refl _⟩ (fun H locs hR hS => ?_)
          refine lv_if_eq (tgt := 59) hx hb dX12_awaited_52 rfl (fun hc => ?_) (fun hc => ?_)
          · have hf := x_ip hc hf
            refine lv_aload_n hx hb dX12_awaited_59 rfl (lv_at hl 0 rfl) ?_
            refine lv_iload_n hx hb dX12_awaited_60 rfl (lv_at hl 1 rfl) ?_
            refine lv_iload_n hx hb dX12_awaited_61 rfl (lv_at hl 2 rfl) ?_
            refine lv_iconst (v := 0) hx hb dX12_awaited_62 rfl ?_
            obtain ⟨q14, eq14, hf⟩ := x_bd hf
            refine x_cVi3 C hR hS (S_X12_awaitedIn  eq14) (x_k hR 64 rfl) (by decide) rfl mf_X12_awaitedIn tw_1907 (Nat.le_of_ble_eq_true rfl) (Nat.le_of_ble_eq_true rfl) hl.1 (Nat.le_of_ble_eq_true rfl) dX12_awaited_63 ⟨Nat.le_refl _, Nat.le_refl _⟩ (fun H locs hR hS => ?_)
            cases hf
            exact x_iret C hR hS dX12_awaited_66
          · have hf := x_in hc hf
            exact B_X12_awaited_55  C   ls _ _ q13.2  (lv_sub hl [] rfl) hR hS hf
        refine lv_if_ne (tgt := 47) hx hb dX12_awaited_40 rfl (fun hc => ?_) (fun hc => ?_)
        · try simp only [if_neg hc] at kM12
          refine lv_iconst (v := 0) hx hb dX12_awaited_47 rfl ?_
          exact kM12 ls _ _ (lv_sub hl [0, 1, 2] rfl) hR hS
        · try simp only [if_pos hc] at kM12
          refine lv_iconst (v := 1) hx hb dX12_awaited_43 rfl ?_
          refine lv_goto (tgt := 48) hx hb dX12_awaited_44 rfl ?_
          exact kM12 ls _ _ (lv_sub hl [0, 1, 2] rfl) hR hS
    refine lv_if_eq (tgt := 26) hx hb dX12_awaited_19 rfl (fun hc => ?_) (fun hc => ?_)
    · try simp only [if_pos hc] at kM9
      refine lv_iconst (v := 0) hx hb dX12_awaited_26 rfl ?_
      exact kM9 ls _ _ (lv_sub hl [0, 1, 2] rfl) hR hS
    · try simp only [if_neg hc] at kM9
      refine lv_iconst (v := 1) hx hb dX12_awaited_22 rfl ?_
      refine lv_goto (tgt := 27) hx hb dX12_awaited_23 rfl ?_
      exact kM9 ls _ _ (lv_sub hl [0, 1, 2] rfl) hR hS
def f_X12_run_55 (x : Nat) (h : XH) : Option (Int32 × XH) := some (0, h)
def f_X12_run_215 (k65 : XH → Int32 → Int32 → Int32 → Option (Int32 × XH)) (x : Nat) (h : XH) (v1 : Int32) (v2 : Int32) (v4 : Int32) : Option (Int32 × XH) := k65 h v1 v2 (v4 + 1)
def f_X12_run_203 (k65 : XH → Int32 → Int32 → Int32 → Option (Int32 × XH)) (x : Nat) (h : XH) (v1 : Int32) (v2 : Int32) (v4 : Int32) (v6 : Int32) : Option (Int32 × XH) := Option.bind (f_X12_sets x h v2 (29 + v4) v6) (fun h15 => f_X12_run_215 k65 x h15 v1 v2 v4)
def f_X12_run_190 (k65 : XH → Int32 → Int32 → Int32 → Option (Int32 × XH)) (k137 : XH → Int32 → Int32 → Int32 → Int32 → Int32 → Int32 → Int32 → Option (Int32 × XH)) (x : Nat) (h : XH) (v1 : Int32) (v2 : Int32) (v4 : Int32) (v5 : Int32) (v6 : Int32) (v7 : Int32) (v8 : Int32) (v9 : Int32) : Option (Int32 × XH) := k137 h v1 v2 v4 (v5 - v9) v6 v7 (v8 + 1)
def f_X12_run_137 (k65 : XH → Int32 → Int32 → Int32 → Option (Int32 × XH)) (x : Nat) : Nat → XH → Int32 → Int32 → Int32 → Int32 → Int32 → Int32 → Int32 → Option (Int32 × XH)
  | 0, _, _, _, _, _, _, _, _ => none
  | n + 1, h, v1, v2, v4, v5, v6, v7, v8 => if 6 ≤ v8 then f_X12_run_203 k65 x h v1 v2 v4 v6 else if v7 = 0 then Option.bind (f_X12_weightOf x h v2 v4 v8) (fun v_16 => x_let ((if v_16 ≤ v5 then 0 else 1) : Int32) (fun t18 => if t18 = 0 then f_X12_run_190 k65 (f_X12_run_137 k65 x n) x h v1 v2 v4 v5 v6 t18 v8 v_16 else Option.bind (f_X12_slip x h v2 v4 v8) (fun v_19 => f_X12_run_190 k65 (f_X12_run_137 k65 x n) x h v1 v2 v4 v5 v_19 t18 v8 v_16))) else f_X12_run_203 k65 x h v1 v2 v4 v6
def f_X12_run_65 (x : Nat) : Nat → XH → Int32 → Int32 → Int32 → Option (Int32 × XH)
  | 0, _, _, _, _ => none
  | n + 1, h, v1, v2, v4 => Option.bind (f_X12_of x h v2 2) (fun v_8 => if v_8 ≤ v4 then Option.bind (f_X12_kindsOf x h v2 0) (fun v_9 => some (v_9, h)) else x_let (f_X12_draw x h) (fun q10 => Option.bind (f_X12_heldOf x q10.2 v1 v2 v4) (fun q11 => if q11.1 ≤ (x_rem q10.1 100) then x_let (f_X12_draw x q11.2) (fun q12 => Option.bind (f_X12_allWeights x q12.2 v2 v4) (fun v_13 => if v_13 = 0 then none else f_X12_run_137 (f_X12_run_65 x n) x x_FU q12.2 v1 v2 v4 (x_rem q12.1 v_13) (-1) 0 2)) else Option.bind (f_X12_cardOf x q11.2 v2 v4) (fun v_20 => Option.bind (f_X12_sets x q11.2 v2 (29 + v4) v_20) (fun h21 => f_X12_run_215 (f_X12_run_65 x n) x h21 v1 v2 v4)))))
def f_X12_run_27 (x : Nat) (h : XH) (v1 : Int32) (v2 : Int32) (v3 : Int32) (s1 : Int32) : Option (Int32 × XH) := Option.bind (f_X12_throwsIf x h s1 1) (fun q3 => if q3.1 = 0 then Option.bind (f_X12_isPut x q3.2 v2) (fun v_4 => Option.bind (f_X12_throwsIf x q3.2 (if v_4 = 0 then 1 else 0) 2) (fun q6 => if q6.1 = 0 then x_let (x_i q6.2 (x + 64) 16 v3) (fun h7 => f_X12_run_65 x x_FU h7 v1 v2 0) else f_X12_run_55 x q6.2)) else f_X12_run_55 x q3.2)
def f_X12_run_22 (x : Nat) (h : XH) (v1 : Int32) (v2 : Int32) (v3 : Int32) : Option (Int32 × XH) := f_X12_run_27 x h v1 v2 v3 1
def f_X12_run (x : Nat) (h : XH) (v1 : Int32) (v2 : Int32) (v3 : Int32) : Option (Int32 × XH) := x_let (x_i h (x + 64) 0 0) (fun h1 => Option.bind (f_X12_noLaw x h1 v1) (fun v_2 => if v_2 = 0 then Option.bind (f_X12_noPack x h1 v2) (fun v_22 => Option.bind (f_X12_throwsIf x h1 (if v_22 = 0 then 0 else 1) 1) (fun q24 => if q24.1 = 0 then Option.bind (f_X12_isPut x q24.2 v2) (fun v_25 => Option.bind (f_X12_throwsIf x q24.2 (if v_25 = 0 then 1 else 0) 2) (fun q27 => if q27.1 = 0 then x_let (x_i q27.2 (x + 64) 16 v3) (fun h28 => f_X12_run_65 x x_FU h28 v1 v2 0) else f_X12_run_55 x q27.2)) else f_X12_run_55 x q24.2)) else f_X12_run_22 x h1 v1 v2 v3))
set_option maxRecDepth 20000 in
theorem B_X12_run_55 {p : Program} {l : Launch} {e : Env} {s : State} {m : MethodId} {args : Array Value} {below : List Frame} {meth : Method} {c : Code} {O : XO} {K : XK} {r : Int32} {h' : XH}   (C : x_C p s m args meth c O cX12_run 10 RX12 (some .int))   (ls : Array Slot) (H : Heap) (locs : List Loc) (h : XH) (hl : lv_has ls 10 []) (hR : x_R O K h H) (hS : va_S (oA O) s.heap H locs) (hf : f_X12_run_55 (oX O) h = some (r, h')) : W p l e (x_rm 7 171) s m args below meth c H locs 0 0 (MQ below (x_Qc O K h' (some (.int r))) args s 0 0 (oA O)) (F0 m 55 ls []) := by
  have hx := C.1
  have hb := C.2.1
  rw [f_X12_run_55] at hf
  refine lv_iconst (v := 0) hx hb dX12_run_55 rfl ?_
  cases hf
  exact x_iret C hR hS dX12_run_56
set_option maxRecDepth 20000 in
theorem B_X12_run_215 {p : Program} {l : Launch} {e : Env} {s : State} {m : MethodId} {args : Array Value} {below : List Frame} {meth : Method} {c : Code} {O : XO} {K : XK} {r : Int32} {h' : XH}  {k65 : XH → Int32 → Int32 → Int32 → Option (Int32 × XH)} (C : x_C p s m args meth c O cX12_run 10 RX12 (some .int)) (hk65 : ∀ (ls : Array Slot) (H : Heap) (locs : List Loc) (h : XH) (v1 : Int32) (v2 : Int32) (v4 : Int32), lv_has ls 10 [(0, .ref (oX O + 64)), (1, .int v1), (2, .int v2), (4, .int v4)] → x_R O K h H → va_S (oA O) s.heap H locs → k65 h v1 v2 v4 = some (r, h') → W p l e (x_rm 7 171) s m args below meth c H locs 0 0 (MQ below (x_Qc O K h' (some (.int r))) args s 0 0 (oA O)) (F0 m 65 ls []))  (ls : Array Slot) (H : Heap) (locs : List Loc) (h : XH) (v1 : Int32) (v2 : Int32) (v4 : Int32) (hl : lv_has ls 10 [(0, .ref (oX O + 64)), (1, .int v1), (2, .int v2), (4, .int v4)]) (hR : x_R O K h H) (hS : va_S (oA O) s.heap H locs) (hf : f_X12_run_215 k65 (oX O) h v1 v2 v4 = some (r, h')) : W p l e (x_rm 7 171) s m args below meth c H locs 0 0 (MQ below (x_Qc O K h' (some (.int r))) args s 0 0 (oA O)) (F0 m 215 ls []) := by
  have hx := C.1
  have hb := C.2.1
  rw [f_X12_run_215] at hf
  refine lv_iinc (k := 3) (v := _ + 1) (lv' := [(4, _), (0, _), (1, _), (2, _)]) hx hb dX12_run_215 hl rfl (x_inc 1 1 rfl _) (Nat.le_of_ble_eq_true rfl) rfl (fun ls hl => ?_)
  refine lv_goto (tgt := 65) hx hb dX12_run_218 rfl ?_
  exact hk65 ls _ _ h _ _ _  (lv_sub hl [1, 2, 3, 0] rfl) hR hS hf
set_option maxRecDepth 20000 in
theorem B_X12_run_203 {p : Program} {l : Launch} {e : Env} {s : State} {m : MethodId} {args : Array Value} {below : List Frame} {meth : Method} {c : Code} {O : XO} {K : XK} {r : Int32} {h' : XH}  {k65 : XH → Int32 → Int32 → Int32 → Option (Int32 × XH)} (C : x_C p s m args meth c O cX12_run 10 RX12 (some .int)) (hk65 : ∀ (ls : Array Slot) (H : Heap) (locs : List Loc) (h : XH) (v1 : Int32) (v2 : Int32) (v4 : Int32), lv_has ls 10 [(0, .ref (oX O + 64)), (1, .int v1), (2, .int v2), (4, .int v4)] → x_R O K h H → va_S (oA O) s.heap H locs → k65 h v1 v2 v4 = some (r, h') → W p l e (x_rm 7 171) s m args below meth c H locs 0 0 (MQ below (x_Qc O K h' (some (.int r))) args s 0 0 (oA O)) (F0 m 65 ls []))  (ls : Array Slot) (H : Heap) (locs : List Loc) (h : XH) (v1 : Int32) (v2 : Int32) (v4 : Int32) (v6 : Int32) (hl : lv_has ls 10 [(0, .ref (oX O + 64)), (1, .int v1), (2, .int v2), (4, .int v4), (6, .int v6)]) (hR : x_R O K h H) (hS : va_S (oA O) s.heap H locs) (hf : f_X12_run_203 k65 (oX O) h v1 v2 v4 v6 = some (r, h')) : W p l e (x_rm 7 171) s m args below meth c H locs 0 0 (MQ below (x_Qc O K h' (some (.int r))) args s 0 0 (oA O)) (F0 m 203 ls []) := by
  have hx := C.1
  have hb := C.2.1
  rw [f_X12_run_203] at hf
  refine lv_aload_n hx hb dX12_run_203 rfl (lv_at hl 0 rfl) ?_
  refine lv_iload_n hx hb dX12_run_204 rfl (lv_at hl 2 rfl) ?_
  refine lv_bipush (v := 29) hx hb dX12_run_205 rfl ?_
  refine lv_iload hx hb dX12_run_207 (lv_at hl 3 rfl) ?_
  refine lv_iadd hx hb dX12_run_209 ?_
  refine lv_iload hx hb dX12_run_210 (lv_at hl 4 rfl) ?_
  obtain ⟨h15, eh15, hf⟩ := x_bd hf
  refine x_cVv3 C hR hS (S_X12_sets  eh15) (x_k hR 64 rfl) (by decide) rfl mf_X12_sets tw_1790 (Nat.le_of_ble_eq_true rfl) (Nat.le_of_ble_eq_true rfl) hl.1 (Nat.le_of_ble_eq_true rfl) dX12_run_212 ⟨Nat.le_refl _, Nat.le_refl _⟩ (fun H locs hR hS => ?_)
  exact B_X12_run_215  C hk65  ls _ _ h15 _ _ _  (lv_sub hl [0, 1, 2, 3] rfl) hR hS hf
set_option maxRecDepth 20000 in
theorem B_X12_run_190 {p : Program} {l : Launch} {e : Env} {s : State} {m : MethodId} {args : Array Value} {below : List Frame} {meth : Method} {c : Code} {O : XO} {K : XK} {r : Int32} {h' : XH}  {k65 : XH → Int32 → Int32 → Int32 → Option (Int32 × XH)} {k137 : XH → Int32 → Int32 → Int32 → Int32 → Int32 → Int32 → Int32 → Option (Int32 × XH)} (C : x_C p s m args meth c O cX12_run 10 RX12 (some .int)) (hk65 : ∀ (ls : Array Slot) (H : Heap) (locs : List Loc) (h : XH) (v1 : Int32) (v2 : Int32) (v4 : Int32), lv_has ls 10 [(0, .ref (oX O + 64)), (1, .int v1), (2, .int v2), (4, .int v4)] → x_R O K h H → va_S (oA O) s.heap H locs → k65 h v1 v2 v4 = some (r, h') → W p l e (x_rm 7 171) s m args below meth c H locs 0 0 (MQ below (x_Qc O K h' (some (.int r))) args s 0 0 (oA O)) (F0 m 65 ls [])) (hk137 : ∀ (ls : Array Slot) (H : Heap) (locs : List Loc) (h : XH) (v1 : Int32) (v2 : Int32) (v4 : Int32) (v5 : Int32) (v6 : Int32) (v7 : Int32) (v8 : Int32), lv_has ls 10 [(0, .ref (oX O + 64)), (1, .int v1), (2, .int v2), (4, .int v4), (5, .int v5), (6, .int v6), (7, .int v7), (8, .int v8)] → x_R O K h H → va_S (oA O) s.heap H locs → k137 h v1 v2 v4 v5 v6 v7 v8 = some (r, h') → W p l e (x_rm 7 171) s m args below meth c H locs 0 0 (MQ below (x_Qc O K h' (some (.int r))) args s 0 0 (oA O)) (F0 m 137 ls []))  (ls : Array Slot) (H : Heap) (locs : List Loc) (h : XH) (v1 : Int32) (v2 : Int32) (v4 : Int32) (v5 : Int32) (v6 : Int32) (v7 : Int32) (v8 : Int32) (v9 : Int32) (hl : lv_has ls 10 [(0, .ref (oX O + 64)), (1, .int v1), (2, .int v2), (4, .int v4), (5, .int v5), (6, .int v6), (7, .int v7), (8, .int v8), (9, .int v9)]) (hR : x_R O K h H) (hS : va_S (oA O) s.heap H locs) (hf : f_X12_run_190 k65 k137 (oX O) h v1 v2 v4 v5 v6 v7 v8 v9 = some (r, h')) : W p l e (x_rm 7 171) s m args below meth c H locs 0 0 (MQ below (x_Qc O K h' (some (.int r))) args s 0 0 (oA O)) (F0 m 190 ls []) := by
  have hx := C.1
  have hb := C.2.1
  rw [f_X12_run_190] at hf
  refine lv_iload hx hb dX12_run_190 (lv_at hl 4 rfl) ?_
  refine lv_iload hx hb dX12_run_192 (lv_at hl 8 rfl) ?_
  refine lv_isub hx hb dX12_run_194 ?_
  refine lv_istore (lv' := [(5, _), (0, _), (1, _), (2, _), (4, _), (6, _), (7, _), (8, _), (9, _)]) hx hb dX12_run_195 hl (Nat.le_of_ble_eq_true rfl) rfl (fun ls hl => ?_)
  refine lv_iinc (k := 7) (v := _ + 1) (lv' := [(8, _), (5, _), (0, _), (1, _), (2, _), (4, _), (6, _), (7, _), (9, _)]) hx hb dX12_run_197 hl rfl (x_inc 1 1 rfl _) (Nat.le_of_ble_eq_true rfl) rfl (fun ls hl => ?_)
  refine lv_goto (tgt := 137) hx hb dX12_run_200 rfl ?_
  exact hk137 ls _ _ h _ _ _ _ _ _ _  (lv_sub hl [2, 3, 4, 5, 1, 6, 7, 0] rfl) hR hS hf
set_option maxRecDepth 20000 in
theorem B_X12_run_137 {p : Program} {l : Launch} {e : Env} {s : State} {m : MethodId} {args : Array Value} {below : List Frame} {meth : Method} {c : Code} {O : XO} {K : XK} {r : Int32} {h' : XH}  {k65 : XH → Int32 → Int32 → Int32 → Option (Int32 × XH)} (C : x_C p s m args meth c O cX12_run 10 RX12 (some .int)) (hk65 : ∀ (ls : Array Slot) (H : Heap) (locs : List Loc) (h : XH) (v1 : Int32) (v2 : Int32) (v4 : Int32), lv_has ls 10 [(0, .ref (oX O + 64)), (1, .int v1), (2, .int v2), (4, .int v4)] → x_R O K h H → va_S (oA O) s.heap H locs → k65 h v1 v2 v4 = some (r, h') → W p l e (x_rm 7 171) s m args below meth c H locs 0 0 (MQ below (x_Qc O K h' (some (.int r))) args s 0 0 (oA O)) (F0 m 65 ls []))  : ∀ (n : Nat) (ls : Array Slot) (H : Heap) (locs : List Loc) (h : XH) (v1 : Int32) (v2 : Int32) (v4 : Int32) (v5 : Int32) (v6 : Int32) (v7 : Int32) (v8 : Int32) (hl : lv_has ls 10 [(0, .ref (oX O + 64)), (1, .int v1), (2, .int v2), (4, .int v4), (5, .int v5), (6, .int v6), (7, .int v7), (8, .int v8)]) (hR : x_R O K h H) (hS : va_S (oA O) s.heap H locs) (hf : f_X12_run_137 k65 (oX O) n h v1 v2 v4 v5 v6 v7 v8 = some (r, h')), W p l e (x_rm 7 171) s m args below meth c H locs 0 0 (MQ below (x_Qc O K h' (some (.int r))) args s 0 0 (oA O)) (F0 m 137 ls []) := by
  have hx := C.1
  have hb := C.2.1
  intro n
  induction n with
  | zero =>
    intro ls H locs h v1 v2 v4 v5 v6 v7 v8 hl hR hS hf
    rw [f_X12_run_137] at hf
    cases hf
  | succ n ih =>
    intro ls H locs h v1 v2 v4 v5 v6 v7 v8 hl hR hS hf
    rw [f_X12_run_137] at hf
    refine lv_iload hx hb dX12_run_137 (lv_at hl 7 rfl) ?_
    refine lv_bipush (v := 6) hx hb dX12_run_139 rfl ?_
    refine lv_icmp_ge (tgt := 203) hx hb dX12_run_141 rfl (fun hc => ?_) (fun hc => ?_)
    · have hf := x_ip hc hf
      exact B_X12_run_203  C hk65  ls _ _ h _ _ _ _  (lv_sub hl [0, 1, 2, 3, 5] rfl) hR hS hf
    · have hf := x_in hc hf
      refine lv_iload hx hb dX12_run_144 (lv_at hl 6 rfl) ?_
      refine lv_if_ne (tgt := 203) hx hb dX12_run_146 rfl (fun hc => ?_) (fun hc => ?_)
      · have hf := x_in hc hf
        exact B_X12_run_203  C hk65  ls _ _ h _ _ _ _  (lv_sub hl [0, 1, 2, 3, 5] rfl) hR hS hf
      · have hf := x_ip hc hf
        refine lv_aload_n hx hb dX12_run_149 rfl (lv_at hl 0 rfl) ?_
        refine lv_iload_n hx hb dX12_run_150 rfl (lv_at hl 2 rfl) ?_
        refine lv_iload hx hb dX12_run_151 (lv_at hl 3 rfl) ?_
        refine lv_iload hx hb dX12_run_153 (lv_at hl 7 rfl) ?_
        obtain ⟨v_16, ev_16, hf⟩ := x_bd hf
        refine x_cVi3 C hR hS (S_X12_weightOf  ev_16) (x_k hR 64 rfl) (by decide) rfl mf_X12_weightOf tw_1955 (Nat.le_of_ble_eq_true rfl) (Nat.le_of_ble_eq_true rfl) hl.1 (Nat.le_of_ble_eq_true rfl) dX12_run_155 ⟨Nat.le_refl _, Nat.le_refl _⟩ (fun H locs hR hS => ?_)
        refine lv_istore (lv' := [(9, _), (0, _), (1, _), (2, _), (4, _), (5, _), (6, _), (7, _), (8, _)]) hx hb dX12_run_158 hl (Nat.le_of_ble_eq_true rfl) rfl (fun ls hl => ?_)
        refine lv_iload hx hb dX12_run_160 (lv_at hl 5 rfl) ?_
        refine lv_iload hx hb dX12_run_162 (lv_at hl 0 rfl) ?_
        have kM17 : ∀ (ls : Array Slot) (H : Heap) (locs : List Loc), lv_has ls 10 [(0, .ref (oX O + 64)), (1, .int v1), (2, .int v2), (4, .int v4), (5, .int v5), (6, .int v6), (8, .int v8), (9, .int v_16)] → x_R O K h H → va_S (oA O) s.heap H locs → W p l e (x_rm 7 171) s m args below meth c H locs 0 0 (MQ below (x_Qc O K h' (some (.int r))) args s 0 0 (oA O)) (F0 m 172 ls [.int (if v_16 ≤ v5 then 0 else 1)]) := by
          intro ls H locs hl hR hS
          obtain ⟨t18, et18, hf⟩ := x_lt hf
          refine x_nmi et18 ?_
          refine lv_istore (lv' := [(7, _), (0, _), (1, _), (2, _), (4, _), (5, _), (6, _), (8, _), (9, _)]) hx hb dX12_run_172 hl (Nat.le_of_ble_eq_true rfl) rfl (fun ls hl => ?_)
          refine lv_iload hx hb dX12_run_174 (lv_at hl 0 rfl) ?_
          refine lv_if_eq (tgt := 190) hx hb dX12_run_176 rfl (fun hc => ?_) (fun hc => ?_)
          · have hf := x_ip hc hf
            exact B_X12_run_190  C hk65 ih  ls _ _ h _ _ _ _ _ _ _ _  (lv_sub hl [1, 2, 3, 4, 5, 6, 0, 7, 8] rfl) hR hS hf
          · have hf := x_in hc hf
            refine lv_aload_n hx hb dX12_run_179 rfl (lv_at hl 1 rfl) ?_
            refine lv_iload_n hx hb dX12_run_180 rfl (lv_at hl 3 rfl) ?_
            refine lv_iload hx hb dX12_run_181 (lv_at hl 4 rfl) ?_
            refine lv_iload hx hb dX12_run_183 (lv_at hl 7 rfl) ?_
            obtain ⟨v_19, ev_19, hf⟩ := x_bd hf
            refine x_cVi3 C hR hS (S_X12_slip  ev_19) (x_k hR 64 rfl) (by decide) rfl mf_X12_slip tw_1919 (Nat.le_of_ble_eq_true rfl) (Nat.le_of_ble_eq_true rfl) hl.1 (Nat.le_of_ble_eq_true rfl) dX12_run_185 ⟨Nat.le_refl _, Nat.le_refl _⟩ (fun H locs hR hS => ?_)
            refine lv_istore (lv' := [(6, _), (7, _), (0, _), (1, _), (2, _), (4, _), (5, _), (8, _), (9, _)]) hx hb dX12_run_188 hl (Nat.le_of_ble_eq_true rfl) rfl (fun ls hl => ?_)
            exact B_X12_run_190  C hk65 ih  ls _ _ h _ _ _ _ _ _ _ _  (lv_sub hl [2, 3, 4, 5, 6, 0, 1, 7, 8] rfl) hR hS hf
        refine lv_icmp_ge (tgt := 171) hx hb dX12_run_164 rfl (fun hc => ?_) (fun hc => ?_)
        · try simp only [if_pos hc] at kM17
          refine lv_iconst (v := 0) hx hb dX12_run_171 rfl ?_
          exact kM17 ls _ _ (lv_sub hl [1, 2, 3, 4, 5, 6, 8, 0] rfl) hR hS
        · try simp only [if_neg hc] at kM17
          refine lv_iconst (v := 1) hx hb dX12_run_167 rfl ?_
          refine lv_goto (tgt := 172) hx hb dX12_run_168 rfl ?_
          exact kM17 ls _ _ (lv_sub hl [1, 2, 3, 4, 5, 6, 8, 0] rfl) hR hS
set_option maxRecDepth 20000 in
theorem B_X12_run_65 {p : Program} {l : Launch} {e : Env} {s : State} {m : MethodId} {args : Array Value} {below : List Frame} {meth : Method} {c : Code} {O : XO} {K : XK} {r : Int32} {h' : XH}   (C : x_C p s m args meth c O cX12_run 10 RX12 (some .int))   : ∀ (n : Nat) (ls : Array Slot) (H : Heap) (locs : List Loc) (h : XH) (v1 : Int32) (v2 : Int32) (v4 : Int32) (hl : lv_has ls 10 [(0, .ref (oX O + 64)), (1, .int v1), (2, .int v2), (4, .int v4)]) (hR : x_R O K h H) (hS : va_S (oA O) s.heap H locs) (hf : f_X12_run_65 (oX O) n h v1 v2 v4 = some (r, h')), W p l e (x_rm 7 171) s m args below meth c H locs 0 0 (MQ below (x_Qc O K h' (some (.int r))) args s 0 0 (oA O)) (F0 m 65 ls []) := by
  have hx := C.1
  have hb := C.2.1
  intro n
  induction n with
  | zero =>
    intro ls H locs h v1 v2 v4 hl hR hS hf
    rw [f_X12_run_65] at hf
    cases hf
  | succ n ih =>
    intro ls H locs h v1 v2 v4 hl hR hS hf
    rw [f_X12_run_65] at hf
    refine lv_iload hx hb dX12_run_65 (lv_at hl 3 rfl) ?_
    refine lv_aload_n hx hb dX12_run_67 rfl (lv_at hl 0 rfl) ?_
    refine lv_iload_n hx hb dX12_run_68 rfl (lv_at hl 2 rfl) ?_
    refine lv_iconst (v := 2) hx hb dX12_run_69 rfl ?_
    obtain ⟨v_8, ev_8, hf⟩ := x_bd hf
    refine x_cVi2 C hR hS (S_X12_of  ev_8) (x_k hR 64 rfl) (by decide) rfl mf_X12_of tw_1806 (Nat.le_of_ble_eq_true rfl) (Nat.le_of_ble_eq_true rfl) hl.1 (Nat.le_of_ble_eq_true rfl) dX12_run_70 ⟨Nat.le_refl _, Nat.le_refl _⟩ (fun H locs hR hS => ?_)
    refine lv_icmp_ge (tgt := 221) hx hb dX12_run_73 rfl (fun hc => ?_) (fun hc => ?_)
    · have hf := x_ip hc hf
      refine lv_aload_n hx hb dX12_run_221 rfl (lv_at hl 0 rfl) ?_
      refine lv_iload_n hx hb dX12_run_222 rfl (lv_at hl 2 rfl) ?_
      refine lv_iconst (v := 0) hx hb dX12_run_223 rfl ?_
      obtain ⟨v_9, ev_9, hf⟩ := x_bd hf
      refine x_cVi2 C hR hS (S_X12_kindsOf  ev_9) (x_k hR 64 rfl) (by decide) rfl mf_X12_kindsOf tw_1959 (Nat.le_of_ble_eq_true rfl) (Nat.le_of_ble_eq_true rfl) hl.1 (Nat.le_of_ble_eq_true rfl) dX12_run_224 ⟨Nat.le_refl _, Nat.le_refl _⟩ (fun H locs hR hS => ?_)
      cases hf
      exact x_iret C hR hS dX12_run_227
    · have hf := x_in hc hf
      refine lv_aload_n hx hb dX12_run_76 rfl (lv_at hl 0 rfl) ?_
      obtain ⟨q10, eq10, hf⟩ := x_lt hf
      refine x_cVi0 C hR hS (S_X12_draw  eq10.symm) (x_k hR 64 rfl) (by decide) rfl mf_X12_draw tw_1943 (Nat.le_of_ble_eq_true rfl) (Nat.le_of_ble_eq_true rfl) hl.1 (Nat.le_of_ble_eq_true rfl) dX12_run_77 ⟨Nat.le_refl _, Nat.le_refl _⟩ (fun H locs hR hS => ?_)
      refine lv_bipush (v := 100) hx hb dX12_run_80 rfl ?_
      refine lv_irem hx hb dX12_run_82 (by decide) ?_
      refine lv_aload_n hx hb dX12_run_83 rfl (lv_at hl 0 rfl) ?_
      refine lv_iload_n hx hb dX12_run_84 rfl (lv_at hl 1 rfl) ?_
      refine lv_iload_n hx hb dX12_run_85 rfl (lv_at hl 2 rfl) ?_
      refine lv_iload hx hb dX12_run_86 (lv_at hl 3 rfl) ?_
      obtain ⟨q11, eq11, hf⟩ := x_bd hf
      refine x_cVi3 C hR hS (S_X12_heldOf  eq11) (x_k hR 64 rfl) (by decide) rfl mf_X12_heldOf tw_1885 (Nat.le_of_ble_eq_true rfl) (Nat.le_of_ble_eq_true rfl) hl.1 (Nat.le_of_ble_eq_true rfl) dX12_run_88 ⟨Nat.le_refl _, Nat.le_refl _⟩ (fun H locs hR hS => ?_)
      refine lv_icmp_ge (tgt := 114) hx hb dX12_run_91 rfl (fun hc => ?_) (fun hc => ?_)
      · have hf := x_ip hc hf
        refine lv_aload_n hx hb dX12_run_114 rfl (lv_at hl 0 rfl) ?_
        obtain ⟨q12, eq12, hf⟩ := x_lt hf
        refine x_cVi0 C hR hS (S_X12_draw  eq12.symm) (x_k hR 64 rfl) (by decide) rfl mf_X12_draw tw_1943 (Nat.le_of_ble_eq_true rfl) (Nat.le_of_ble_eq_true rfl) hl.1 (Nat.le_of_ble_eq_true rfl) dX12_run_115 ⟨Nat.le_refl _, Nat.le_refl _⟩ (fun H locs hR hS => ?_)
        refine lv_aload_n hx hb dX12_run_118 rfl (lv_at hl 0 rfl) ?_
        refine lv_iload_n hx hb dX12_run_119 rfl (lv_at hl 2 rfl) ?_
        refine lv_iload hx hb dX12_run_120 (lv_at hl 3 rfl) ?_
        obtain ⟨v_13, ev_13, hf⟩ := x_bd hf
        refine x_cVi2 C hR hS (S_X12_allWeights  ev_13) (x_k hR 64 rfl) (by decide) rfl mf_X12_allWeights tw_1948 (Nat.le_of_ble_eq_true rfl) (Nat.le_of_ble_eq_true rfl) hl.1 (Nat.le_of_ble_eq_true rfl) dX12_run_122 ⟨Nat.le_refl _, Nat.le_refl _⟩ (fun H locs hR hS => ?_)
        obtain ⟨g14, hf⟩ := x_gn hf
        refine lv_irem hx hb dX12_run_125 g14 ?_
        refine lv_istore (lv' := [(5, _), (0, _), (1, _), (2, _), (4, _)]) hx hb dX12_run_126 hl (Nat.le_of_ble_eq_true rfl) rfl (fun ls hl => ?_)
        refine lv_iconst (v := (-1)) hx hb dX12_run_128 rfl ?_
        refine lv_istore (lv' := [(6, _), (5, _), (0, _), (1, _), (2, _), (4, _)]) hx hb dX12_run_129 hl (Nat.le_of_ble_eq_true rfl) rfl (fun ls hl => ?_)
        refine lv_iconst (v := 0) hx hb dX12_run_131 rfl ?_
        refine lv_istore (lv' := [(7, _), (6, _), (5, _), (0, _), (1, _), (2, _), (4, _)]) hx hb dX12_run_132 hl (Nat.le_of_ble_eq_true rfl) rfl (fun ls hl => ?_)
        refine lv_iconst (v := 2) hx hb dX12_run_134 rfl ?_
        refine lv_istore (lv' := [(8, _), (7, _), (6, _), (5, _), (0, _), (1, _), (2, _), (4, _)]) hx hb dX12_run_135 hl (Nat.le_of_ble_eq_true rfl) rfl (fun ls hl => ?_)
        exact B_X12_run_137  C ih x_FU ls _ _ q12.2 _ _ _ _ _ _ _  (lv_sub hl [4, 5, 6, 7, 3, 2, 1, 0] rfl) hR hS hf
      · have hf := x_in hc hf
        refine lv_aload_n hx hb dX12_run_94 rfl (lv_at hl 0 rfl) ?_
        refine lv_iload_n hx hb dX12_run_95 rfl (lv_at hl 2 rfl) ?_
        refine lv_bipush (v := 29) hx hb dX12_run_96 rfl ?_
        refine lv_iload hx hb dX12_run_98 (lv_at hl 3 rfl) ?_
        refine lv_iadd hx hb dX12_run_100 ?_
        refine lv_aload_n hx hb dX12_run_101 rfl (lv_at hl 0 rfl) ?_
        refine lv_iload_n hx hb dX12_run_102 rfl (lv_at hl 2 rfl) ?_
        refine lv_iload hx hb dX12_run_103 (lv_at hl 3 rfl) ?_
        obtain ⟨v_20, ev_20, hf⟩ := x_bd hf
        refine x_cVi2 C hR hS (S_X12_cardOf  ev_20) (x_k hR 64 rfl) (by decide) rfl mf_X12_cardOf tw_1810 (Nat.le_of_ble_eq_true rfl) (Nat.le_of_ble_eq_true rfl) hl.1 (Nat.le_of_ble_eq_true rfl) dX12_run_105 ⟨Nat.le_refl _, Nat.le_refl _⟩ (fun H locs hR hS => ?_)
        obtain ⟨h21, eh21, hf⟩ := x_bd hf
        refine x_cVv3 C hR hS (S_X12_sets  eh21) (x_k hR 64 rfl) (by decide) rfl mf_X12_sets tw_1790 (Nat.le_of_ble_eq_true rfl) (Nat.le_of_ble_eq_true rfl) hl.1 (Nat.le_of_ble_eq_true rfl) dX12_run_108 ⟨Nat.le_refl _, Nat.le_refl _⟩ (fun H locs hR hS => ?_)
        refine lv_goto (tgt := 215) hx hb dX12_run_111 rfl ?_
        exact B_X12_run_215  C ih  ls _ _ h21 _ _ _  (lv_sub hl [0, 1, 2, 3] rfl) hR hS hf
set_option maxRecDepth 20000 in
theorem B_X12_run_27 {p : Program} {l : Launch} {e : Env} {s : State} {m : MethodId} {args : Array Value} {below : List Frame} {meth : Method} {c : Code} {O : XO} {K : XK} {r : Int32} {h' : XH}   (C : x_C p s m args meth c O cX12_run 10 RX12 (some .int))   (ls : Array Slot) (H : Heap) (locs : List Loc) (h : XH) (v1 : Int32) (v2 : Int32) (v3 : Int32) (s1 : Int32) (hl : lv_has ls 10 [(0, .ref (oX O + 64)), (1, .int v1), (2, .int v2), (3, .int v3)]) (hR : x_R O K h H) (hS : va_S (oA O) s.heap H locs) (hf : f_X12_run_27 (oX O) h v1 v2 v3 s1 = some (r, h')) : W p l e (x_rm 7 171) s m args below meth c H locs 0 0 (MQ below (x_Qc O K h' (some (.int r))) args s 0 0 (oA O)) (F0 m 27 ls [.int s1, .ref (oX O + 64)]) := by
  have hx := C.1
  have hb := C.2.1
  rw [f_X12_run_27] at hf
  refine lv_iconst (v := 1) hx hb dX12_run_27 rfl ?_
  obtain ⟨q3, eq3, hf⟩ := x_bd hf
  refine x_cVi2 C hR hS (S_X12_throwsIf  eq3) (x_k hR 64 rfl) (by decide) rfl mf_X12_throwsIf tw_1741 (Nat.le_of_ble_eq_true rfl) (Nat.le_of_ble_eq_true rfl) hl.1 (Nat.le_of_ble_eq_true rfl) dX12_run_28 ⟨Nat.le_refl _, Nat.le_refl _⟩ (fun H locs hR hS => ?_)
  refine lv_if_ne (tgt := 55) hx hb dX12_run_31 rfl (fun hc => ?_) (fun hc => ?_)
  · have hf := x_in hc hf
    exact B_X12_run_55  C   ls _ _ q3.2  (lv_sub hl [] rfl) hR hS hf
  · have hf := x_ip hc hf
    refine lv_aload_n hx hb dX12_run_34 rfl (lv_at hl 0 rfl) ?_
    refine lv_aload_n hx hb dX12_run_35 rfl (lv_at hl 0 rfl) ?_
    refine lv_iload_n hx hb dX12_run_36 rfl (lv_at hl 2 rfl) ?_
    obtain ⟨v_4, ev_4, hf⟩ := x_bd hf
    refine x_cVi1 C hR hS (S_X12_isPut  ev_4) (x_k hR 64 rfl) (by decide) rfl mf_X12_isPut tw_1818 (Nat.le_of_ble_eq_true rfl) (Nat.le_of_ble_eq_true rfl) hl.1 (Nat.le_of_ble_eq_true rfl) dX12_run_37 ⟨Nat.le_refl _, Nat.le_refl _⟩ (fun H locs hR hS => ?_)
    have kM5 : ∀ (ls : Array Slot) (H : Heap) (locs : List Loc), lv_has ls 10 [(0, .ref (oX O + 64)), (1, .int v1), (2, .int v2), (3, .int v3)] → x_R O K q3.2 H → va_S (oA O) s.heap H locs → W p l e (x_rm 7 171) s m args below meth c H locs 0 0 (MQ below (x_Qc O K h' (some (.int r))) args s 0 0 (oA O)) (F0 m 48 ls [.int (if v_4 = 0 then 1 else 0), .ref (oX O + 64)]) := by
      intro ls H locs hl hR hS
      refine lv_iconst (v := 2) hx hb dX12_run_48 rfl ?_
      obtain ⟨q6, eq6, hf⟩ := x_bd hf
      refine x_cVi2 C hR hS (S_X12_throwsIf  eq6) (x_k hR 64 rfl) (by decide) rfl mf_X12_throwsIf tw_1741 (Nat.le_of_ble_eq_true rfl) (Nat.le_of_ble_eq_true rfl) hl.1 (Nat.le_of_ble_eq_true rfl) dX12_run_49 ⟨Nat.le_refl _, Nat.le_refl _⟩ (fun H locs hR hS => ?_)
      refine lv_if_eq (tgt := 57) hx hb dX12_run_52 rfl (fun hc => ?_) (fun hc => ?_)
      · have hf := x_ip hc hf
        refine lv_aload_n hx hb dX12_run_57 rfl (lv_at hl 0 rfl) ?_
        refine lv_iload_n hx hb dX12_run_58 rfl (lv_at hl 3 rfl) ?_
        obtain ⟨h7, eh7, hf⟩ := x_lt hf
        refine pf_12_16 C hR hS (x_k hR 64 rfl) tw_1559 dX12_run_59 (fun H locs hR hS => ?_)
        rw [← eh7] at hR
        refine lv_iconst (v := 0) hx hb dX12_run_62 rfl ?_
        refine lv_istore (lv' := [(4, _), (0, _), (1, _), (2, _), (3, _)]) hx hb dX12_run_63 hl (Nat.le_of_ble_eq_true rfl) rfl (fun ls hl => ?_)
        exact B_X12_run_65  C  x_FU ls _ _ h7 _ _ _  (lv_sub hl [1, 2, 3, 0] rfl) hR hS hf
      · have hf := x_in hc hf
        exact B_X12_run_55  C   ls _ _ q6.2  (lv_sub hl [] rfl) hR hS hf
    refine lv_if_ne (tgt := 47) hx hb dX12_run_40 rfl (fun hc => ?_) (fun hc => ?_)
    · try simp only [if_neg hc] at kM5
      refine lv_iconst (v := 0) hx hb dX12_run_47 rfl ?_
      exact kM5 ls _ _ (lv_sub hl [0, 1, 2, 3] rfl) hR hS
    · try simp only [if_pos hc] at kM5
      refine lv_iconst (v := 1) hx hb dX12_run_43 rfl ?_
      refine lv_goto (tgt := 48) hx hb dX12_run_44 rfl ?_
      exact kM5 ls _ _ (lv_sub hl [0, 1, 2, 3] rfl) hR hS
set_option maxRecDepth 20000 in
theorem B_X12_run_22 {p : Program} {l : Launch} {e : Env} {s : State} {m : MethodId} {args : Array Value} {below : List Frame} {meth : Method} {c : Code} {O : XO} {K : XK} {r : Int32} {h' : XH}   (C : x_C p s m args meth c O cX12_run 10 RX12 (some .int))   (ls : Array Slot) (H : Heap) (locs : List Loc) (h : XH) (v1 : Int32) (v2 : Int32) (v3 : Int32) (hl : lv_has ls 10 [(0, .ref (oX O + 64)), (1, .int v1), (2, .int v2), (3, .int v3)]) (hR : x_R O K h H) (hS : va_S (oA O) s.heap H locs) (hf : f_X12_run_22 (oX O) h v1 v2 v3 = some (r, h')) : W p l e (x_rm 7 171) s m args below meth c H locs 0 0 (MQ below (x_Qc O K h' (some (.int r))) args s 0 0 (oA O)) (F0 m 22 ls [.ref (oX O + 64)]) := by
  have hx := C.1
  have hb := C.2.1
  rw [f_X12_run_22] at hf
  refine lv_iconst (v := 1) hx hb dX12_run_22 rfl ?_
  refine lv_goto (tgt := 27) hx hb dX12_run_23 rfl ?_
  exact B_X12_run_27  C   ls _ _ h _ _ _ _  (lv_sub hl [0, 1, 2, 3] rfl) hR hS hf
set_option maxRecDepth 20000 in
theorem S_X12_run {l : Launch} {O : XO} {K : XK} {h : XH} {v1 : Int32} {v2 : Int32} {v3 : Int32}  {r : Int32} {h' : XH}  (hf : f_X12_run (oX O) h v1 v2 v3 = some (r, h')) : x_M l O K yX12_run cX12_run 10 (some .int) 7 171 h [.ref (oX O + 64), .int v1, .int v2, .int v3] (some (.int r)) h' := by
  refine x_enter (by decide) (Nat.le_of_ble_eq_true rfl) (fun p e s m args below meth c C hR ls hl => ?_)
  have hS : va_S (oA O) s.heap s.heap [] := va_S.rf
  have hx := C.1
  have hb := C.2.1
  have hl : lv_has ls 10 [(0, .ref (oX O + 64)), (1, .int v1), (2, .int v2), (3, .int v3)] := hl
  rw [f_X12_run] at hf
  refine lv_aload_n hx hb dX12_run_0 rfl (lv_at hl 0 rfl) ?_
  refine lv_iconst (v := 0) hx hb dX12_run_1 rfl ?_
  obtain ⟨h1, eh1, hf⟩ := x_lt hf
  refine pf_12_0 C hR hS (x_k hR 64 rfl) tw_1543 dX12_run_2 (fun H locs hR hS => ?_)
  rw [← eh1] at hR
  refine lv_aload_n hx hb dX12_run_5 rfl (lv_at hl 0 rfl) ?_
  refine lv_aload_n hx hb dX12_run_6 rfl (lv_at hl 0 rfl) ?_
  refine lv_iload_n hx hb dX12_run_7 rfl (lv_at hl 1 rfl) ?_
  obtain ⟨v_2, ev_2, hf⟩ := x_bd hf
  refine x_cVi1 C hR hS (S_X12_noLaw  ev_2) (x_k hR 64 rfl) (by decide) rfl mf_X12_noLaw tw_1881 (Nat.le_of_ble_eq_true rfl) (Nat.le_of_ble_eq_true rfl) hl.1 (Nat.le_of_ble_eq_true rfl) dX12_run_8 ⟨Nat.le_refl _, Nat.le_refl _⟩ (fun H locs hR hS => ?_)
  refine lv_if_ne (tgt := 22) hx hb dX12_run_11 rfl (fun hc => ?_) (fun hc => ?_)
  · have hf := x_in hc hf
    exact B_X12_run_22  C   ls _ _ h1 _ _ _  (lv_sub hl [0, 1, 2, 3] rfl) hR hS hf
  · have hf := x_ip hc hf
    refine lv_aload_n hx hb dX12_run_14 rfl (lv_at hl 0 rfl) ?_
    refine lv_iload_n hx hb dX12_run_15 rfl (lv_at hl 2 rfl) ?_
    obtain ⟨v_22, ev_22, hf⟩ := x_bd hf
    refine x_cVi1 C hR hS (S_X12_noPack  ev_22) (x_k hR 64 rfl) (by decide) rfl mf_X12_noPack tw_1802 (Nat.le_of_ble_eq_true rfl) (Nat.le_of_ble_eq_true rfl) hl.1 (Nat.le_of_ble_eq_true rfl) dX12_run_16 ⟨Nat.le_refl _, Nat.le_refl _⟩ (fun H locs hR hS => ?_)
    have kM23 : ∀ (ls : Array Slot) (H : Heap) (locs : List Loc), lv_has ls 10 [(0, .ref (oX O + 64)), (1, .int v1), (2, .int v2), (3, .int v3)] → x_R O K h1 H → va_S (oA O) s.heap H locs → W p l e (x_rm 7 171) s m args below meth c H locs 0 0 (MQ below (x_Qc O K h' (some (.int r))) args s 0 0 (oA O)) (F0 m 27 ls [.int (if v_22 = 0 then 0 else 1), .ref (oX O + 64)]) := by
      intro ls H locs hl hR hS
      refine lv_iconst (v := 1) hx hb dX12_run_27 rfl ?_
      obtain ⟨q24, eq24, hf⟩ := x_bd hf
      refine x_cVi2 C hR hS (S_X12_throwsIf  eq24) (x_k hR 64 rfl) (by decide) rfl mf_X12_throwsIf tw_1741 (Nat.le_of_ble_eq_true rfl) (Nat.le_of_ble_eq_true rfl) hl.1 (Nat.le_of_ble_eq_true rfl) dX12_run_28 ⟨Nat.le_refl _, Nat.le_refl _⟩ (fun H locs hR hS => ?_)
      refine lv_if_ne (tgt := 55) hx hb dX12_run_31 rfl (fun hc => ?_) (fun hc => ?_)
      · have hf := x_in hc hf
        exact B_X12_run_55  C   ls _ _ q24.2  (lv_sub hl [] rfl) hR hS hf
      · have hf := x_ip hc hf
        refine lv_aload_n hx hb dX12_run_34 rfl (lv_at hl 0 rfl) ?_
        refine lv_aload_n hx hb dX12_run_35 rfl (lv_at hl 0 rfl) ?_
        refine lv_iload_n hx hb dX12_run_36 rfl (lv_at hl 2 rfl) ?_
        obtain ⟨v_25, ev_25, hf⟩ := x_bd hf
        refine x_cVi1 C hR hS (S_X12_isPut  ev_25) (x_k hR 64 rfl) (by decide) rfl mf_X12_isPut tw_1818 (Nat.le_of_ble_eq_true rfl) (Nat.le_of_ble_eq_true rfl) hl.1 (Nat.le_of_ble_eq_true rfl) dX12_run_37 ⟨Nat.le_refl _, Nat.le_refl _⟩ (fun H locs hR hS => ?_)
        have kM26 : ∀ (ls : Array Slot) (H : Heap) (locs : List Loc), lv_has ls 10 [(0, .ref (oX O + 64)), (1, .int v1), (2, .int v2), (3, .int v3)] → x_R O K q24.2 H → va_S (oA O) s.heap H locs → W p l e (x_rm 7 171) s m args below meth c H locs 0 0 (MQ below (x_Qc O K h' (some (.int r))) args s 0 0 (oA O)) (F0 m 48 ls [.int (if v_25 = 0 then 1 else 0), .ref (oX O + 64)]) := by
          intro ls H locs hl hR hS
          refine lv_iconst (v := 2) hx hb dX12_run_48 rfl ?_
          obtain ⟨q27, eq27, hf⟩ := x_bd hf
          refine x_cVi2 C hR hS (S_X12_throwsIf  eq27) (x_k hR 64 rfl) (by decide) rfl mf_X12_throwsIf tw_1741 (Nat.le_of_ble_eq_true rfl) (Nat.le_of_ble_eq_true rfl) hl.1 (Nat.le_of_ble_eq_true rfl) dX12_run_49 ⟨Nat.le_refl _, Nat.le_refl _⟩ (fun H locs hR hS => ?_)
          refine lv_if_eq (tgt := 57) hx hb dX12_run_52 rfl (fun hc => ?_) (fun hc => ?_)
          · have hf := x_ip hc hf
            refine lv_aload_n hx hb dX12_run_57 rfl (lv_at hl 0 rfl) ?_
            refine lv_iload_n hx hb dX12_run_58 rfl (lv_at hl 3 rfl) ?_
            obtain ⟨h28, eh28, hf⟩ := x_lt hf
            refine pf_12_16 C hR hS (x_k hR 64 rfl) tw_1559 dX12_run_59 (fun H locs hR hS => ?_)
            rw [← eh28] at hR
            refine lv_iconst (v := 0) hx hb dX12_run_62 rfl ?_
            refine lv_istore (lv' := [(4, _), (0, _), (1, _), (2, _), (3, _)]) hx hb dX12_run_63 hl (Nat.le_of_ble_eq_true rfl) rfl (fun ls hl => ?_)
            exact B_X12_run_65  C  x_FU ls _ _ h28 _ _ _  (lv_sub hl [1, 2, 3, 0] rfl) hR hS hf
          · have hf := x_in hc hf
            exact B_X12_run_55  C   ls _ _ q27.2  (lv_sub hl [] rfl) hR hS hf
        refine lv_if_ne (tgt := 47) hx hb dX12_run_40 rfl (fun hc => ?_) (fun hc => ?_)
        · try simp only [if_neg hc] at kM26
          refine lv_iconst (v := 0) hx hb dX12_run_47 rfl ?_
          exact kM26 ls _ _ (lv_sub hl [0, 1, 2, 3] rfl) hR hS
        · try simp only [if_pos hc] at kM26
          refine lv_iconst (v := 1) hx hb dX12_run_43 rfl ?_
          refine lv_goto (tgt := 48) hx hb dX12_run_44 rfl ?_
          exact kM26 ls _ _ (lv_sub hl [0, 1, 2, 3] rfl) hR hS
    refine lv_if_eq (tgt := 26) hx hb dX12_run_19 rfl (fun hc => ?_) (fun hc => ?_)
    · try simp only [if_pos hc] at kM23
      refine lv_iconst (v := 0) hx hb dX12_run_26 rfl ?_
      exact kM23 ls _ _ (lv_sub hl [0, 1, 2, 3] rfl) hR hS
    · try simp only [if_neg hc] at kM23
      refine lv_iconst (v := 1) hx hb dX12_run_22 rfl ?_
      refine lv_goto (tgt := 27) hx hb dX12_run_23 rfl ?_
      exact kM23 ls _ _ (lv_sub hl [0, 1, 2, 3] rfl) hR hS
def f_X12_common_10 (h : XH) : Nat → Int32 → Int32 → Option Int32
  | 0, _, _ => none
  | n + 1, v2, v3 => if v3 ≤ 0 then some v2 else if v3 = 0 then none else f_X12_common_10 h n v3 (x_rem v2 v3)
def f_X12_common (h : XH) (v0 : Int32) (v1 : Int32) : Option Int32 := f_X12_common_10 h x_FU (f_J9_abs_0f7a4 h v0) (f_J9_abs_0f7a4 h v1)
set_option maxRecDepth 20000 in
theorem B_X12_common_10 {p : Program} {l : Launch} {e : Env} {s : State} {m : MethodId} {args : Array Value} {below : List Frame} {meth : Method} {c : Code} {O : XO} {K : XK} {h : XH} {r : Int32}   (C : x_C p s m args meth c O cX12_common 5 RX12 (some .int))   : ∀ (n : Nat) (ls : Array Slot) (H : Heap) (locs : List Loc) (v2 : Int32) (v3 : Int32) (hl : lv_has ls 5 [(2, .int v2), (3, .int v3)]) (hR : x_R O K h H) (hS : va_S (oA O) s.heap H locs) (hf : f_X12_common_10 h n v2 v3 = some r), W p l e (x_rm 1 20) s m args below meth c H locs 0 0 (MQ below (x_Qc O K h (some (.int r))) args s 0 0 (oA O)) (F0 m 10 ls []) := by
  have hx := C.1
  have hb := C.2.1
  intro n
  induction n with
  | zero =>
    intro ls H locs v2 v3 hl hR hS hf
    rw [f_X12_common_10] at hf
    cases hf
  | succ n ih =>
    intro ls H locs v2 v3 hl hR hS hf
    rw [f_X12_common_10] at hf
    refine lv_iload_n hx hb dX12_common_10 rfl (lv_at hl 1 rfl) ?_
    refine lv_if_le (tgt := 27) hx hb dX12_common_11 rfl (fun hc => ?_) (fun hc => ?_)
    · have hf := x_ip hc hf
      refine lv_iload_n hx hb dX12_common_27 rfl (lv_at hl 0 rfl) ?_
      cases hf
      exact x_iret C hR hS dX12_common_28
    · have hf := x_in hc hf
      refine lv_iload_n hx hb dX12_common_14 rfl (lv_at hl 0 rfl) ?_
      refine lv_iload_n hx hb dX12_common_15 rfl (lv_at hl 1 rfl) ?_
      obtain ⟨g1, hf⟩ := x_gn hf
      refine lv_irem hx hb dX12_common_16 g1 ?_
      refine lv_istore (lv' := [(4, _), (2, _), (3, _)]) hx hb dX12_common_17 hl (Nat.le_of_ble_eq_true rfl) rfl (fun ls hl => ?_)
      refine lv_iload_n hx hb dX12_common_19 rfl (lv_at hl 2 rfl) ?_
      refine lv_istore_n (lv' := [(2, _), (4, _), (3, _)]) hx hb dX12_common_20 rfl hl (Nat.le_of_ble_eq_true rfl) rfl (fun ls hl => ?_)
      refine lv_iload hx hb dX12_common_21 (lv_at hl 1 rfl) ?_
      refine lv_istore_n (lv' := [(3, _), (2, _), (4, _)]) hx hb dX12_common_23 rfl hl (Nat.le_of_ble_eq_true rfl) rfl (fun ls hl => ?_)
      refine lv_goto (tgt := 10) hx hb dX12_common_24 rfl ?_
      exact ih ls _ _ _ _  (lv_sub hl [1, 0] rfl) hR hS hf
set_option maxRecDepth 20000 in
theorem S_X12_common {l : Launch} {O : XO} {K : XK} {h : XH} {v0 : Int32} {v1 : Int32}  {r : Int32}  (hf : f_X12_common h v0 v1 = some r) : x_M l O K yX12_common cX12_common 5 (some .int) 1 20 h [.int v0, .int v1] (some (.int r)) h := by
  refine x_enter (by decide) (Nat.le_of_ble_eq_true rfl) (fun p e s m args below meth c C hR ls hl => ?_)
  have hS : va_S (oA O) s.heap s.heap [] := va_S.rf
  have hx := C.1
  have hb := C.2.1
  have hl : lv_has ls 5 [(0, .int v0), (1, .int v1)] := hl
  rw [f_X12_common] at hf
  refine lv_iload_n hx hb dX12_common_0 rfl (lv_at hl 0 rfl) ?_
  refine x_cSi1 C hR hS (S_J9_abs_0f7a4  rfl) mf_J9_abs_0f7a4 tw_1970 (Nat.le_of_ble_eq_true rfl) (Nat.le_of_ble_eq_true rfl) hl.1 (Nat.le_of_ble_eq_true rfl) dX12_common_1 ⟨Nat.le_refl _, Nat.le_refl _⟩ (fun H locs hR hS => ?_)
  refine lv_istore_n (lv' := [(2, _), (0, _), (1, _)]) hx hb dX12_common_4 rfl hl (Nat.le_of_ble_eq_true rfl) rfl (fun ls hl => ?_)
  refine lv_iload_n hx hb dX12_common_5 rfl (lv_at hl 2 rfl) ?_
  refine x_cSi1 C hR hS (S_J9_abs_0f7a4  rfl) mf_J9_abs_0f7a4 tw_1970 (Nat.le_of_ble_eq_true rfl) (Nat.le_of_ble_eq_true rfl) hl.1 (Nat.le_of_ble_eq_true rfl) dX12_common_6 ⟨Nat.le_refl _, Nat.le_refl _⟩ (fun H locs hR hS => ?_)
  refine lv_istore_n (lv' := [(3, _), (2, _), (0, _), (1, _)]) hx hb dX12_common_9 rfl hl (Nat.le_of_ble_eq_true rfl) rfl (fun ls hl => ?_)
  exact B_X12_common_10  C  x_FU ls _ _ _ _  (lv_sub hl [1, 0] rfl) hR hS hf
def f_X12_odds_79 (x : Nat) (h : XH) : Option (Int32 × XH) := some (0, h)
def f_X12_odds_125 (x : Nat) (h : XH) (v5 : Int32) (v7 : Int32) (s0 : Int32) : Option (Int32 × XH) := Option.bind (f_X12_common h s0 (100 * v7)) (fun v_12 => if v5 = 0 then if v_12 = 0 then none else some ((s0 / v_12), h) else if v_12 = 0 then none else some (((100 * v7) / v_12), h))
def f_X12_odds_28 (x : Nat) (h : XH) (v1 : Int32) (v2 : Int32) (v3 : Int32) (v4 : Int32) (v5 : Int32) (s1 : Int32) : Option (Int32 × XH) := Option.bind (f_X12_throwsIf x h s1 1) (fun q3 => if q3.1 = 0 then Option.bind (f_X12_isPut x q3.2 v2) (fun v_4 => Option.bind (f_X12_throwsIf x q3.2 (if v_4 = 0 then 1 else 0) 2) (fun q6 => if q6.1 = 0 then Option.bind (f_X12_throwsIf x q6.2 (if (f_X12_in q6.2 v4 0 5) = 0 then 1 else 0) 3) (fun q8 => if q8.1 = 0 then Option.bind (f_X12_heldOf x q8.2 v1 v2 v3) (fun q9 => Option.bind (f_X12_allWeights x q9.2 v2 v3) (fun v_10 => if v4 = 0 then f_X12_odds_125 x q9.2 v5 v_10 (q9.1 * v_10) else Option.bind (f_X12_weightOf x q9.2 v2 v3 v4) (fun v_11 => f_X12_odds_125 x q9.2 v5 v_10 ((100 - q9.1) * v_11)))) else f_X12_odds_79 x q8.2) else f_X12_odds_79 x q6.2)) else f_X12_odds_79 x q3.2)
def f_X12_odds_23 (x : Nat) (h : XH) (v1 : Int32) (v2 : Int32) (v3 : Int32) (v4 : Int32) (v5 : Int32) : Option (Int32 × XH) := f_X12_odds_28 x h v1 v2 v3 v4 v5 1
def f_X12_odds (x : Nat) (h : XH) (v1 : Int32) (v2 : Int32) (v3 : Int32) (v4 : Int32) (v5 : Int32) : Option (Int32 × XH) := x_let (x_i h (x + 64) 0 0) (fun h1 => Option.bind (f_X12_noLaw x h1 v1) (fun v_2 => if v_2 = 0 then Option.bind (f_X12_noPlace x h1 v2 v3) (fun v_15 => Option.bind (f_X12_throwsIf x h1 (if v_15 = 0 then 0 else 1) 1) (fun q17 => if q17.1 = 0 then Option.bind (f_X12_isPut x q17.2 v2) (fun v_18 => Option.bind (f_X12_throwsIf x q17.2 (if v_18 = 0 then 1 else 0) 2) (fun q20 => if q20.1 = 0 then Option.bind (f_X12_throwsIf x q20.2 (if (f_X12_in q20.2 v4 0 5) = 0 then 1 else 0) 3) (fun q22 => if q22.1 = 0 then Option.bind (f_X12_heldOf x q22.2 v1 v2 v3) (fun q23 => Option.bind (f_X12_allWeights x q23.2 v2 v3) (fun v_24 => if v4 = 0 then f_X12_odds_125 x q23.2 v5 v_24 (q23.1 * v_24) else Option.bind (f_X12_weightOf x q23.2 v2 v3 v4) (fun v_25 => f_X12_odds_125 x q23.2 v5 v_24 ((100 - q23.1) * v_25)))) else f_X12_odds_79 x q22.2) else f_X12_odds_79 x q20.2)) else f_X12_odds_79 x q17.2)) else f_X12_odds_23 x h1 v1 v2 v3 v4 v5))
set_option maxRecDepth 20000 in
theorem B_X12_odds_79 {p : Program} {l : Launch} {e : Env} {s : State} {m : MethodId} {args : Array Value} {below : List Frame} {meth : Method} {c : Code} {O : XO} {K : XK} {r : Int32} {h' : XH}   (C : x_C p s m args meth c O cX12_odds 10 RX12 (some .int))   (ls : Array Slot) (H : Heap) (locs : List Loc) (h : XH) (hl : lv_has ls 10 []) (hR : x_R O K h H) (hS : va_S (oA O) s.heap H locs) (hf : f_X12_odds_79 (oX O) h = some (r, h')) : W p l e (x_rm 7 171) s m args below meth c H locs 0 0 (MQ below (x_Qc O K h' (some (.int r))) args s 0 0 (oA O)) (F0 m 79 ls []) := by
  have hx := C.1
  have hb := C.2.1
  rw [f_X12_odds_79] at hf
  refine lv_iconst (v := 0) hx hb dX12_odds_79 rfl ?_
  cases hf
  exact x_iret C hR hS dX12_odds_80
set_option maxRecDepth 20000 in
theorem B_X12_odds_125 {p : Program} {l : Launch} {e : Env} {s : State} {m : MethodId} {args : Array Value} {below : List Frame} {meth : Method} {c : Code} {O : XO} {K : XK} {r : Int32} {h' : XH}   (C : x_C p s m args meth c O cX12_odds 10 RX12 (some .int))   (ls : Array Slot) (H : Heap) (locs : List Loc) (h : XH) (v5 : Int32) (v7 : Int32) (s0 : Int32) (hl : lv_has ls 10 [(5, .int v5), (7, .int v7)]) (hR : x_R O K h H) (hS : va_S (oA O) s.heap H locs) (hf : f_X12_odds_125 (oX O) h v5 v7 s0 = some (r, h')) : W p l e (x_rm 7 171) s m args below meth c H locs 0 0 (MQ below (x_Qc O K h' (some (.int r))) args s 0 0 (oA O)) (F0 m 125 ls [.int s0]) := by
  have hx := C.1
  have hb := C.2.1
  rw [f_X12_odds_125] at hf
  refine lv_istore (lv' := [(8, _), (5, _), (7, _)]) hx hb dX12_odds_125 hl (Nat.le_of_ble_eq_true rfl) rfl (fun ls hl => ?_)
  refine lv_iload hx hb dX12_odds_127 (lv_at hl 0 rfl) ?_
  refine lv_bipush (v := 100) hx hb dX12_odds_129 rfl ?_
  refine lv_iload hx hb dX12_odds_131 (lv_at hl 2 rfl) ?_
  refine lv_imul hx hb dX12_odds_133 ?_
  obtain ⟨v_12, ev_12, hf⟩ := x_bd hf
  refine x_cSi2 C hR hS (S_X12_common  ev_12) mf_X12_common tw_1967 (Nat.le_of_ble_eq_true rfl) (Nat.le_of_ble_eq_true rfl) hl.1 (Nat.le_of_ble_eq_true rfl) dX12_odds_134 ⟨Nat.le_refl _, Nat.le_refl _⟩ (fun H locs hR hS => ?_)
  refine lv_istore (lv' := [(9, _), (8, _), (5, _), (7, _)]) hx hb dX12_odds_137 hl (Nat.le_of_ble_eq_true rfl) rfl (fun ls hl => ?_)
  refine lv_iload hx hb dX12_odds_139 (lv_at hl 2 rfl) ?_
  refine lv_if_eq (tgt := 155) hx hb dX12_odds_141 rfl (fun hc => ?_) (fun hc => ?_)
  · have hf := x_ip hc hf
    refine lv_iload hx hb dX12_odds_155 (lv_at hl 1 rfl) ?_
    refine lv_iload hx hb dX12_odds_157 (lv_at hl 0 rfl) ?_
    obtain ⟨g13, hf⟩ := x_gn hf
    refine lv_idiv hx hb dX12_odds_159 g13 ?_
    cases hf
    exact x_iret C hR hS dX12_odds_160
  · have hf := x_in hc hf
    refine lv_bipush (v := 100) hx hb dX12_odds_144 rfl ?_
    refine lv_iload hx hb dX12_odds_146 (lv_at hl 3 rfl) ?_
    refine lv_imul hx hb dX12_odds_148 ?_
    refine lv_iload hx hb dX12_odds_149 (lv_at hl 0 rfl) ?_
    obtain ⟨g14, hf⟩ := x_gn hf
    refine lv_idiv hx hb dX12_odds_151 g14 ?_
    refine lv_goto (tgt := 160) hx hb dX12_odds_152 rfl ?_
    cases hf
    exact x_iret C hR hS dX12_odds_160
set_option maxRecDepth 20000 in
theorem B_X12_odds_28 {p : Program} {l : Launch} {e : Env} {s : State} {m : MethodId} {args : Array Value} {below : List Frame} {meth : Method} {c : Code} {O : XO} {K : XK} {r : Int32} {h' : XH}   (C : x_C p s m args meth c O cX12_odds 10 RX12 (some .int))   (ls : Array Slot) (H : Heap) (locs : List Loc) (h : XH) (v1 : Int32) (v2 : Int32) (v3 : Int32) (v4 : Int32) (v5 : Int32) (s1 : Int32) (hl : lv_has ls 10 [(0, .ref (oX O + 64)), (1, .int v1), (2, .int v2), (3, .int v3), (4, .int v4), (5, .int v5)]) (hR : x_R O K h H) (hS : va_S (oA O) s.heap H locs) (hf : f_X12_odds_28 (oX O) h v1 v2 v3 v4 v5 s1 = some (r, h')) : W p l e (x_rm 7 171) s m args below meth c H locs 0 0 (MQ below (x_Qc O K h' (some (.int r))) args s 0 0 (oA O)) (F0 m 28 ls [.int s1, .ref (oX O + 64)]) := by
  have hx := C.1
  have hb := C.2.1
  rw [f_X12_odds_28] at hf
  refine lv_iconst (v := 1) hx hb dX12_odds_28 rfl ?_
  obtain ⟨q3, eq3, hf⟩ := x_bd hf
  refine x_cVi2 C hR hS (S_X12_throwsIf  eq3) (x_k hR 64 rfl) (by decide) rfl mf_X12_throwsIf tw_1741 (Nat.le_of_ble_eq_true rfl) (Nat.le_of_ble_eq_true rfl) hl.1 (Nat.le_of_ble_eq_true rfl) dX12_odds_29 ⟨Nat.le_refl _, Nat.le_refl _⟩ (fun H locs hR hS => ?_)
  refine lv_if_ne (tgt := 79) hx hb dX12_odds_32 rfl (fun hc => ?_) (fun hc => ?_)
  · have hf := x_in hc hf
    exact B_X12_odds_79  C   ls _ _ q3.2  (lv_sub hl [] rfl) hR hS hf
  · have hf := x_ip hc hf
    refine lv_aload_n hx hb dX12_odds_35 rfl (lv_at hl 0 rfl) ?_
    refine lv_aload_n hx hb dX12_odds_36 rfl (lv_at hl 0 rfl) ?_
    refine lv_iload_n hx hb dX12_odds_37 rfl (lv_at hl 2 rfl) ?_
    obtain ⟨v_4, ev_4, hf⟩ := x_bd hf
    refine x_cVi1 C hR hS (S_X12_isPut  ev_4) (x_k hR 64 rfl) (by decide) rfl mf_X12_isPut tw_1818 (Nat.le_of_ble_eq_true rfl) (Nat.le_of_ble_eq_true rfl) hl.1 (Nat.le_of_ble_eq_true rfl) dX12_odds_38 ⟨Nat.le_refl _, Nat.le_refl _⟩ (fun H locs hR hS => ?_)
    have kM5 : ∀ (ls : Array Slot) (H : Heap) (locs : List Loc), lv_has ls 10 [(0, .ref (oX O + 64)), (1, .int v1), (2, .int v2), (3, .int v3), (4, .int v4), (5, .int v5)] → x_R O K q3.2 H → va_S (oA O) s.heap H locs → W p l e (x_rm 7 171) s m args below meth c H locs 0 0 (MQ below (x_Qc O K h' (some (.int r))) args s 0 0 (oA O)) (F0 m 49 ls [.int (if v_4 = 0 then 1 else 0), .ref (oX O + 64)]) := by
      intro ls H locs hl hR hS
      refine lv_iconst (v := 2) hx hb dX12_odds_49 rfl ?_
      obtain ⟨q6, eq6, hf⟩ := x_bd hf
      refine x_cVi2 C hR hS (S_X12_throwsIf  eq6) (x_k hR 64 rfl) (by decide) rfl mf_X12_throwsIf tw_1741 (Nat.le_of_ble_eq_true rfl) (Nat.le_of_ble_eq_true rfl) hl.1 (Nat.le_of_ble_eq_true rfl) dX12_odds_50 ⟨Nat.le_refl _, Nat.le_refl _⟩ (fun H locs hR hS => ?_)
      refine lv_if_ne (tgt := 79) hx hb dX12_odds_53 rfl (fun hc => ?_) (fun hc => ?_)
      · have hf := x_in hc hf
        exact B_X12_odds_79  C   ls _ _ q6.2  (lv_sub hl [] rfl) hR hS hf
      · have hf := x_ip hc hf
        refine lv_aload_n hx hb dX12_odds_56 rfl (lv_at hl 0 rfl) ?_
        refine lv_iload hx hb dX12_odds_57 (lv_at hl 4 rfl) ?_
        refine lv_iconst (v := 0) hx hb dX12_odds_59 rfl ?_
        refine lv_iconst (v := 5) hx hb dX12_odds_60 rfl ?_
        refine x_cSi3 C hR hS (S_X12_in  rfl) mf_X12_in tw_1756 (Nat.le_of_ble_eq_true rfl) (Nat.le_of_ble_eq_true rfl) hl.1 (Nat.le_of_ble_eq_true rfl) dX12_odds_61 ⟨Nat.le_refl _, Nat.le_refl _⟩ (fun H locs hR hS => ?_)
        have kM7 : ∀ (ls : Array Slot) (H : Heap) (locs : List Loc), lv_has ls 10 [(0, .ref (oX O + 64)), (1, .int v1), (2, .int v2), (3, .int v3), (4, .int v4), (5, .int v5)] → x_R O K q6.2 H → va_S (oA O) s.heap H locs → W p l e (x_rm 7 171) s m args below meth c H locs 0 0 (MQ below (x_Qc O K h' (some (.int r))) args s 0 0 (oA O)) (F0 m 72 ls [.int (if (f_X12_in q6.2 v4 0 5) = 0 then 1 else 0), .ref (oX O + 64)]) := by
          intro ls H locs hl hR hS
          refine lv_iconst (v := 3) hx hb dX12_odds_72 rfl ?_
          obtain ⟨q8, eq8, hf⟩ := x_bd hf
          refine x_cVi2 C hR hS (S_X12_throwsIf  eq8) (x_k hR 64 rfl) (by decide) rfl mf_X12_throwsIf tw_1741 (Nat.le_of_ble_eq_true rfl) (Nat.le_of_ble_eq_true rfl) hl.1 (Nat.le_of_ble_eq_true rfl) dX12_odds_73 ⟨Nat.le_refl _, Nat.le_refl _⟩ (fun H locs hR hS => ?_)
          refine lv_if_eq (tgt := 81) hx hb dX12_odds_76 rfl (fun hc => ?_) (fun hc => ?_)
          · have hf := x_ip hc hf
            refine lv_aload_n hx hb dX12_odds_81 rfl (lv_at hl 0 rfl) ?_
            refine lv_iload_n hx hb dX12_odds_82 rfl (lv_at hl 1 rfl) ?_
            refine lv_iload_n hx hb dX12_odds_83 rfl (lv_at hl 2 rfl) ?_
            refine lv_iload_n hx hb dX12_odds_84 rfl (lv_at hl 3 rfl) ?_
            obtain ⟨q9, eq9, hf⟩ := x_bd hf
            refine x_cVi3 C hR hS (S_X12_heldOf  eq9) (x_k hR 64 rfl) (by decide) rfl mf_X12_heldOf tw_1885 (Nat.le_of_ble_eq_true rfl) (Nat.le_of_ble_eq_true rfl) hl.1 (Nat.le_of_ble_eq_true rfl) dX12_odds_85 ⟨Nat.le_refl _, Nat.le_refl _⟩ (fun H locs hR hS => ?_)
            refine lv_istore (lv' := [(6, _), (0, _), (1, _), (2, _), (3, _), (4, _), (5, _)]) hx hb dX12_odds_88 hl (Nat.le_of_ble_eq_true rfl) rfl (fun ls hl => ?_)
            refine lv_aload_n hx hb dX12_odds_90 rfl (lv_at hl 1 rfl) ?_
            refine lv_iload_n hx hb dX12_odds_91 rfl (lv_at hl 3 rfl) ?_
            refine lv_iload_n hx hb dX12_odds_92 rfl (lv_at hl 4 rfl) ?_
            obtain ⟨v_10, ev_10, hf⟩ := x_bd hf
            refine x_cVi2 C hR hS (S_X12_allWeights  ev_10) (x_k hR 64 rfl) (by decide) rfl mf_X12_allWeights tw_1948 (Nat.le_of_ble_eq_true rfl) (Nat.le_of_ble_eq_true rfl) hl.1 (Nat.le_of_ble_eq_true rfl) dX12_odds_93 ⟨Nat.le_refl _, Nat.le_refl _⟩ (fun H locs hR hS => ?_)
            refine lv_istore (lv' := [(7, _), (6, _), (0, _), (1, _), (2, _), (3, _), (4, _), (5, _)]) hx hb dX12_odds_96 hl (Nat.le_of_ble_eq_true rfl) rfl (fun ls hl => ?_)
            refine lv_iload hx hb dX12_odds_98 (lv_at hl 6 rfl) ?_
            refine lv_if_ne (tgt := 111) hx hb dX12_odds_100 rfl (fun hc => ?_) (fun hc => ?_)
            · have hf := x_in hc hf
              refine lv_bipush (v := 100) hx hb dX12_odds_111 rfl ?_
              refine lv_iload hx hb dX12_odds_113 (lv_at hl 1 rfl) ?_
              refine lv_isub hx hb dX12_odds_115 ?_
              refine lv_aload_n hx hb dX12_odds_116 rfl (lv_at hl 2 rfl) ?_
              refine lv_iload_n hx hb dX12_odds_117 rfl (lv_at hl 4 rfl) ?_
              refine lv_iload_n hx hb dX12_odds_118 rfl (lv_at hl 5 rfl) ?_
              refine lv_iload hx hb dX12_odds_119 (lv_at hl 6 rfl) ?_
              obtain ⟨v_11, ev_11, hf⟩ := x_bd hf
              refine x_cVi3 C hR hS (S_X12_weightOf  ev_11) (x_k hR 64 rfl) (by decide) rfl mf_X12_weightOf tw_1955 (Nat.le_of_ble_eq_true rfl) (Nat.le_of_ble_eq_true rfl) hl.1 (Nat.le_of_ble_eq_true rfl) dX12_odds_121 ⟨Nat.le_refl _, Nat.le_refl _⟩ (fun H locs hR hS => ?_)
              refine lv_imul hx hb dX12_odds_124 ?_
              exact B_X12_odds_125  C   ls _ _ q9.2 _ _ _  (lv_sub hl [7, 0] rfl) hR hS hf
            · have hf := x_ip hc hf
              refine lv_iload hx hb dX12_odds_103 (lv_at hl 1 rfl) ?_
              refine lv_iload hx hb dX12_odds_105 (lv_at hl 0 rfl) ?_
              refine lv_imul hx hb dX12_odds_107 ?_
              refine lv_goto (tgt := 125) hx hb dX12_odds_108 rfl ?_
              exact B_X12_odds_125  C   ls _ _ q9.2 _ _ _  (lv_sub hl [7, 0] rfl) hR hS hf
          · have hf := x_in hc hf
            exact B_X12_odds_79  C   ls _ _ q8.2  (lv_sub hl [] rfl) hR hS hf
        refine lv_if_ne (tgt := 71) hx hb dX12_odds_64 rfl (fun hc => ?_) (fun hc => ?_)
        · try simp only [if_neg hc] at kM7
          refine lv_iconst (v := 0) hx hb dX12_odds_71 rfl ?_
          exact kM7 ls _ _ (lv_sub hl [0, 1, 2, 3, 4, 5] rfl) hR hS
        · try simp only [if_pos hc] at kM7
          refine lv_iconst (v := 1) hx hb dX12_odds_67 rfl ?_
          refine lv_goto (tgt := 72) hx hb dX12_odds_68 rfl ?_
          exact kM7 ls _ _ (lv_sub hl [0, 1, 2, 3, 4, 5] rfl) hR hS
    refine lv_if_ne (tgt := 48) hx hb dX12_odds_41 rfl (fun hc => ?_) (fun hc => ?_)
    · try simp only [if_neg hc] at kM5
      refine lv_iconst (v := 0) hx hb dX12_odds_48 rfl ?_
      exact kM5 ls _ _ (lv_sub hl [0, 1, 2, 3, 4, 5] rfl) hR hS
    · try simp only [if_pos hc] at kM5
      refine lv_iconst (v := 1) hx hb dX12_odds_44 rfl ?_
      refine lv_goto (tgt := 49) hx hb dX12_odds_45 rfl ?_
      exact kM5 ls _ _ (lv_sub hl [0, 1, 2, 3, 4, 5] rfl) hR hS
set_option maxRecDepth 20000 in
theorem B_X12_odds_23 {p : Program} {l : Launch} {e : Env} {s : State} {m : MethodId} {args : Array Value} {below : List Frame} {meth : Method} {c : Code} {O : XO} {K : XK} {r : Int32} {h' : XH}   (C : x_C p s m args meth c O cX12_odds 10 RX12 (some .int))   (ls : Array Slot) (H : Heap) (locs : List Loc) (h : XH) (v1 : Int32) (v2 : Int32) (v3 : Int32) (v4 : Int32) (v5 : Int32) (hl : lv_has ls 10 [(0, .ref (oX O + 64)), (1, .int v1), (2, .int v2), (3, .int v3), (4, .int v4), (5, .int v5)]) (hR : x_R O K h H) (hS : va_S (oA O) s.heap H locs) (hf : f_X12_odds_23 (oX O) h v1 v2 v3 v4 v5 = some (r, h')) : W p l e (x_rm 7 171) s m args below meth c H locs 0 0 (MQ below (x_Qc O K h' (some (.int r))) args s 0 0 (oA O)) (F0 m 23 ls [.ref (oX O + 64)]) := by
  have hx := C.1
  have hb := C.2.1
  rw [f_X12_odds_23] at hf
  refine lv_iconst (v := 1) hx hb dX12_odds_23 rfl ?_
  refine lv_goto (tgt := 28) hx hb dX12_odds_24 rfl ?_
  exact B_X12_odds_28  C   ls _ _ h _ _ _ _ _ _  (lv_sub hl [0, 1, 2, 3, 4, 5] rfl) hR hS hf
set_option maxRecDepth 20000 in
theorem S_X12_odds {l : Launch} {O : XO} {K : XK} {h : XH} {v1 : Int32} {v2 : Int32} {v3 : Int32} {v4 : Int32} {v5 : Int32}  {r : Int32} {h' : XH}  (hf : f_X12_odds (oX O) h v1 v2 v3 v4 v5 = some (r, h')) : x_M l O K yX12_odds cX12_odds 10 (some .int) 7 171 h [.ref (oX O + 64), .int v1, .int v2, .int v3, .int v4, .int v5] (some (.int r)) h' := by
  refine x_enter (by decide) (Nat.le_of_ble_eq_true rfl) (fun p e s m args below meth c C hR ls hl => ?_)
  have hS : va_S (oA O) s.heap s.heap [] := va_S.rf
  have hx := C.1
  have hb := C.2.1
  have hl : lv_has ls 10 [(0, .ref (oX O + 64)), (1, .int v1), (2, .int v2), (3, .int v3), (4, .int v4), (5, .int v5)] := hl
  rw [f_X12_odds] at hf
  refine lv_aload_n hx hb dX12_odds_0 rfl (lv_at hl 0 rfl) ?_
  refine lv_iconst (v := 0) hx hb dX12_odds_1 rfl ?_
  obtain ⟨h1, eh1, hf⟩ := x_lt hf
  refine pf_12_0 C hR hS (x_k hR 64 rfl) tw_1543 dX12_odds_2 (fun H locs hR hS => ?_)
  rw [← eh1] at hR
  refine lv_aload_n hx hb dX12_odds_5 rfl (lv_at hl 0 rfl) ?_
  refine lv_aload_n hx hb dX12_odds_6 rfl (lv_at hl 0 rfl) ?_
  refine lv_iload_n hx hb dX12_odds_7 rfl (lv_at hl 1 rfl) ?_
  obtain ⟨v_2, ev_2, hf⟩ := x_bd hf
  refine x_cVi1 C hR hS (S_X12_noLaw  ev_2) (x_k hR 64 rfl) (by decide) rfl mf_X12_noLaw tw_1881 (Nat.le_of_ble_eq_true rfl) (Nat.le_of_ble_eq_true rfl) hl.1 (Nat.le_of_ble_eq_true rfl) dX12_odds_8 ⟨Nat.le_refl _, Nat.le_refl _⟩ (fun H locs hR hS => ?_)
  refine lv_if_ne (tgt := 23) hx hb dX12_odds_11 rfl (fun hc => ?_) (fun hc => ?_)
  · have hf := x_in hc hf
    exact B_X12_odds_23  C   ls _ _ h1 _ _ _ _ _  (lv_sub hl [0, 1, 2, 3, 4, 5] rfl) hR hS hf
  · have hf := x_ip hc hf
    refine lv_aload_n hx hb dX12_odds_14 rfl (lv_at hl 0 rfl) ?_
    refine lv_iload_n hx hb dX12_odds_15 rfl (lv_at hl 2 rfl) ?_
    refine lv_iload_n hx hb dX12_odds_16 rfl (lv_at hl 3 rfl) ?_
    obtain ⟨v_15, ev_15, hf⟩ := x_bd hf
    refine x_cVi2 C hR hS (S_X12_noPlace  ev_15) (x_k hR 64 rfl) (by decide) rfl mf_X12_noPlace tw_1798 (Nat.le_of_ble_eq_true rfl) (Nat.le_of_ble_eq_true rfl) hl.1 (Nat.le_of_ble_eq_true rfl) dX12_odds_17 ⟨Nat.le_refl _, Nat.le_refl _⟩ (fun H locs hR hS => ?_)
    have kM16 : ∀ (ls : Array Slot) (H : Heap) (locs : List Loc), lv_has ls 10 [(0, .ref (oX O + 64)), (1, .int v1), (2, .int v2), (3, .int v3), (4, .int v4), (5, .int v5)] → x_R O K h1 H → va_S (oA O) s.heap H locs → W p l e (x_rm 7 171) s m args below meth c H locs 0 0 (MQ below (x_Qc O K h' (some (.int r))) args s 0 0 (oA O)) (F0 m 28 ls [.int (if v_15 = 0 then 0 else 1), .ref (oX O + 64)]) := by
      intro ls H locs hl hR hS
      refine lv_iconst (v := 1) hx hb dX12_odds_28 rfl ?_
      obtain ⟨q17, eq17, hf⟩ := x_bd hf
      refine x_cVi2 C hR hS (S_X12_throwsIf  eq17) (x_k hR 64 rfl) (by decide) rfl mf_X12_throwsIf tw_1741 (Nat.le_of_ble_eq_true rfl) (Nat.le_of_ble_eq_true rfl) hl.1 (Nat.le_of_ble_eq_true rfl) dX12_odds_29 ⟨Nat.le_refl _, Nat.le_refl _⟩ (fun H locs hR hS => ?_)
      refine lv_if_ne (tgt := 79) hx hb dX12_odds_32 rfl (fun hc => ?_) (fun hc => ?_)
      · have hf := x_in hc hf
        exact B_X12_odds_79  C   ls _ _ q17.2  (lv_sub hl [] rfl) hR hS hf
      · have hf := x_ip hc hf
        refine lv_aload_n hx hb dX12_odds_35 rfl (lv_at hl 0 rfl) ?_
        refine lv_aload_n hx hb dX12_odds_36 rfl (lv_at hl 0 rfl) ?_
        refine lv_iload_n hx hb dX12_odds_37 rfl (lv_at hl 2 rfl) ?_
        obtain ⟨v_18, ev_18, hf⟩ := x_bd hf
        refine x_cVi1 C hR hS (S_X12_isPut  ev_18) (x_k hR 64 rfl) (by decide) rfl mf_X12_isPut tw_1818 (Nat.le_of_ble_eq_true rfl) (Nat.le_of_ble_eq_true rfl) hl.1 (Nat.le_of_ble_eq_true rfl) dX12_odds_38 ⟨Nat.le_refl _, Nat.le_refl _⟩ (fun H locs hR hS => ?_)
        have kM19 : ∀ (ls : Array Slot) (H : Heap) (locs : List Loc), lv_has ls 10 [(0, .ref (oX O + 64)), (1, .int v1), (2, .int v2), (3, .int v3), (4, .int v4), (5, .int v5)] → x_R O K q17.2 H → va_S (oA O) s.heap H locs → W p l e (x_rm 7 171) s m args below meth c H locs 0 0 (MQ below (x_Qc O K h' (some (.int r))) args s 0 0 (oA O)) (F0 m 49 ls [.int (if v_18 = 0 then 1 else 0), .ref (oX O + 64)]) := by
          intro ls H locs hl hR hS
          refine lv_iconst (v := 2) hx hb dX12_odds_49 rfl ?_
          obtain ⟨q20, eq20, hf⟩ := x_bd hf
          refine x_cVi2 C hR hS (S_X12_throwsIf  eq20) (x_k hR 64 rfl) (by decide) rfl mf_X12_throwsIf tw_1741 (Nat.le_of_ble_eq_true rfl) (Nat.le_of_ble_eq_true rfl) hl.1 (Nat.le_of_ble_eq_true rfl) dX12_odds_50 ⟨Nat.le_refl _, Nat.le_refl _⟩ (fun H locs hR hS => ?_)
          refine lv_if_ne (tgt := 79) hx hb dX12_odds_53 rfl (fun hc => ?_) (fun hc => ?_)
          · have hf := x_in hc hf
            exact B_X12_odds_79  C   ls _ _ q20.2  (lv_sub hl [] rfl) hR hS hf
          · have hf := x_ip hc hf
            refine lv_aload_n hx hb dX12_odds_56 rfl (lv_at hl 0 rfl) ?_
            refine lv_iload hx hb dX12_odds_57 (lv_at hl 4 rfl) ?_
            refine lv_iconst (v := 0) hx hb dX12_odds_59 rfl ?_
            refine lv_iconst (v := 5) hx hb dX12_odds_60 rfl ?_
            refine x_cSi3 C hR hS (S_X12_in  rfl) mf_X12_in tw_1756 (Nat.le_of_ble_eq_true rfl) (Nat.le_of_ble_eq_true rfl) hl.1 (Nat.le_of_ble_eq_true rfl) dX12_odds_61 ⟨Nat.le_refl _, Nat.le_refl _⟩ (fun H locs hR hS => ?_)
            have kM21 : ∀ (ls : Array Slot) (H : Heap) (locs : List Loc), lv_has ls 10 [(0, .ref (oX O + 64)), (1, .int v1), (2, .int v2), (3, .int v3), (4, .int v4), (5, .int v5)] → x_R O K q20.2 H → va_S (oA O) s.heap H locs → W p l e (x_rm 7 171) s m args below meth c H locs 0 0 (MQ below (x_Qc O K h' (some (.int r))) args s 0 0 (oA O)) (F0 m 72 ls [.int (if (f_X12_in q20.2 v4 0 5) = 0 then 1 else 0), .ref (oX O + 64)]) := by
              intro ls H locs hl hR hS
              refine lv_iconst (v := 3) hx hb dX12_odds_72 rfl ?_
              obtain ⟨q22, eq22, hf⟩ := x_bd hf
              refine x_cVi2 C hR hS (S_X12_throwsIf  eq22) (x_k hR 64 rfl) (by decide) rfl mf_X12_throwsIf tw_1741 (Nat.le_of_ble_eq_true rfl) (Nat.le_of_ble_eq_true rfl) hl.1 (Nat.le_of_ble_eq_true rfl) dX12_odds_73 ⟨Nat.le_refl _, Nat.le_refl _⟩ (fun H locs hR hS => ?_)
              refine lv_if_eq (tgt := 81) hx hb dX12_odds_76 rfl (fun hc => ?_) (fun hc => ?_)
              · have hf := x_ip hc hf
                refine lv_aload_n hx hb dX12_odds_81 rfl (lv_at hl 0 rfl) ?_
                refine lv_iload_n hx hb dX12_odds_82 rfl (lv_at hl 1 rfl) ?_
                refine lv_iload_n hx hb dX12_odds_83 rfl (lv_at hl 2 rfl) ?_
                refine lv_iload_n hx hb dX12_odds_84 rfl (lv_at hl 3 rfl) ?_
                obtain ⟨q23, eq23, hf⟩ := x_bd hf
                refine x_cVi3 C hR hS (S_X12_heldOf  eq23) (x_k hR 64 rfl) (by decide) rfl mf_X12_heldOf tw_1885 (Nat.le_of_ble_eq_true rfl) (Nat.le_of_ble_eq_true rfl) hl.1 (Nat.le_of_ble_eq_true rfl) dX12_odds_85 ⟨Nat.le_refl _, Nat.le_refl _⟩ (fun H locs hR hS => ?_)
                refine lv_istore (lv' := [(6, _), (0, _), (1, _), (2, _), (3, _), (4, _), (5, _)]) hx hb dX12_odds_88 hl (Nat.le_of_ble_eq_true rfl) rfl (fun ls hl => ?_)
                refine lv_aload_n hx hb dX12_odds_90 rfl (lv_at hl 1 rfl) ?_
                refine lv_iload_n hx hb dX12_odds_91 rfl (lv_at hl 3 rfl) ?_
                refine lv_iload_n hx hb dX12_odds_92 rfl (lv_at hl 4 rfl) ?_
                obtain ⟨v_24, ev_24, hf⟩ := x_bd hf
                refine x_cVi2 C hR hS (S_X12_allWeights  ev_24) (x_k hR 64 rfl) (by decide) rfl mf_X12_allWeights tw_1948 (Nat.le_of_ble_eq_true rfl) (Nat.le_of_ble_eq_true rfl) hl.1 (Nat.le_of_ble_eq_true rfl) dX12_odds_93 ⟨Nat.le_refl _, Nat.le_refl _⟩ (fun H locs hR hS => ?_)
                refine lv_istore (lv' := [(7, _), (6, _), (0, _), (1, _), (2, _), (3, _), (4, _), (5, _)]) hx hb dX12_odds_96 hl (Nat.le_of_ble_eq_true rfl) rfl (fun ls hl => ?_)
                refine lv_iload hx hb dX12_odds_98 (lv_at hl 6 rfl) ?_
                refine lv_if_ne (tgt := 111) hx hb dX12_odds_100 rfl (fun hc => ?_) (fun hc => ?_)
                · have hf := x_in hc hf
                  refine lv_bipush (v := 100) hx hb dX12_odds_111 rfl ?_
                  refine lv_iload hx hb dX12_odds_113 (lv_at hl 1 rfl) ?_
                  refine lv_isub hx hb dX12_odds_115 ?_
                  refine lv_aload_n hx hb dX12_odds_116 rfl (lv_at hl 2 rfl) ?_
                  refine lv_iload_n hx hb dX12_odds_117 rfl (lv_at hl 4 rfl) ?_
                  refine lv_iload_n hx hb dX12_odds_118 rfl (lv_at hl 5 rfl) ?_
                  refine lv_iload hx hb dX12_odds_119 (lv_at hl 6 rfl) ?_
                  obtain ⟨v_25, ev_25, hf⟩ := x_bd hf
                  refine x_cVi3 C hR hS (S_X12_weightOf  ev_25) (x_k hR 64 rfl) (by decide) rfl mf_X12_weightOf tw_1955 (Nat.le_of_ble_eq_true rfl) (Nat.le_of_ble_eq_true rfl) hl.1 (Nat.le_of_ble_eq_true rfl) dX12_odds_121 ⟨Nat.le_refl _, Nat.le_refl _⟩ (fun H locs hR hS => ?_)
                  refine lv_imul hx hb dX12_odds_124 ?_
                  exact B_X12_odds_125  C   ls _ _ q23.2 _ _ _  (lv_sub hl [7, 0] rfl) hR hS hf
                · have hf := x_ip hc hf
                  refine lv_iload hx hb dX12_odds_103 (lv_at hl 1 rfl) ?_
                  refine lv_iload hx hb dX12_odds_105 (lv_at hl 0 rfl) ?_
                  refine lv_imul hx hb dX12_odds_107 ?_
                  refine lv_goto (tgt := 125) hx hb dX12_odds_108 rfl ?_
                  exact B_X12_odds_125  C   ls _ _ q23.2 _ _ _  (lv_sub hl [7, 0] rfl) hR hS hf
              · have hf := x_in hc hf
                exact B_X12_odds_79  C   ls _ _ q22.2  (lv_sub hl [] rfl) hR hS hf
            refine lv_if_ne (tgt := 71) hx hb dX12_odds_64 rfl (fun hc => ?_) (fun hc => ?_)
            · try simp only [if_neg hc] at kM21
              refine lv_iconst (v := 0) hx hb dX12_odds_71 rfl ?_
              exact kM21 ls _ _ (lv_sub hl [0, 1, 2, 3, 4, 5] rfl) hR hS
            · try simp only [if_pos hc] at kM21
              refine lv_iconst (v := 1) hx hb dX12_odds_67 rfl ?_
              refine lv_goto (tgt := 72) hx hb dX12_odds_68 rfl ?_
              exact kM21 ls _ _ (lv_sub hl [0, 1, 2, 3, 4, 5] rfl) hR hS
        refine lv_if_ne (tgt := 48) hx hb dX12_odds_41 rfl (fun hc => ?_) (fun hc => ?_)
        · try simp only [if_neg hc] at kM19
          refine lv_iconst (v := 0) hx hb dX12_odds_48 rfl ?_
          exact kM19 ls _ _ (lv_sub hl [0, 1, 2, 3, 4, 5] rfl) hR hS
        · try simp only [if_pos hc] at kM19
          refine lv_iconst (v := 1) hx hb dX12_odds_44 rfl ?_
          refine lv_goto (tgt := 49) hx hb dX12_odds_45 rfl ?_
          exact kM19 ls _ _ (lv_sub hl [0, 1, 2, 3, 4, 5] rfl) hR hS
    refine lv_if_eq (tgt := 27) hx hb dX12_odds_20 rfl (fun hc => ?_) (fun hc => ?_)
    · try simp only [if_pos hc] at kM16
      refine lv_iconst (v := 0) hx hb dX12_odds_27 rfl ?_
      exact kM16 ls _ _ (lv_sub hl [0, 1, 2, 3, 4, 5] rfl) hR hS
    · try simp only [if_neg hc] at kM16
      refine lv_iconst (v := 1) hx hb dX12_odds_23 rfl ?_
      refine lv_goto (tgt := 28) hx hb dX12_odds_24 rfl ?_
      exact kM16 ls _ _ (lv_sub hl [0, 1, 2, 3, 4, 5] rfl) hR hS
def f_X12_fits_63 (x : Nat) (h : XH) : Option (Int32 × XH) := some (0, h)
def f_X12_fits_70 (x : Nat) : Nat → XH → Int32 → Int32 → Int32 → Int32 → Option (Int32 × XH)
  | 0, _, _, _, _, _ => none
  | n + 1, h, v1, v2, v3, v4 => if x_b 2 6927 = true then if (h.1 (x + 65) (2 : Int32).toNatClampNeg) ≤ v4 then some (v3, h) else Option.bind (f_X12_awaitedIn x h v4 v1 0) (fun q10 => Option.bind (f_X12_kindsOf x q10.2 v1 0) (fun v_11 => x_let ((v3 ||| (if v2 < (f_J9_abs_0f7a4 q10.2 (q10.1 - (100 * v_11))) then 0 else (x_shl 1 v4))) : Int32) (fun t13 => f_X12_fits_70 x n q10.2 v1 v2 t13 (v4 + 1)))) else none
def f_X12_fits (x : Nat) (h : XH) (v1 : Int32) (v2 : Int32) : Option (Int32 × XH) := x_let (x_i h (x + 64) 0 0) (fun h1 => Option.bind (f_X12_noPack x h1 v1) (fun v_2 => Option.bind (f_X12_throwsIf x h1 v_2 1) (fun q3 => if q3.1 = 0 then Option.bind (f_X12_isPut x q3.2 v1) (fun v_4 => Option.bind (f_X12_throwsIf x q3.2 (if v_4 = 0 then 1 else 0) 2) (fun q6 => if q6.1 = 0 then Option.bind (f_X12_throwsIf x q6.2 (if (f_X12_in q6.2 v2 0 5200) = 0 then 1 else 0) 3) (fun q8 => if q8.1 = 0 then f_X12_fits_70 x x_FU q8.2 v1 v2 0 0 else f_X12_fits_63 x q8.2) else f_X12_fits_63 x q6.2)) else f_X12_fits_63 x q3.2)))
set_option maxRecDepth 20000 in
theorem B_X12_fits_63 {p : Program} {l : Launch} {e : Env} {s : State} {m : MethodId} {args : Array Value} {below : List Frame} {meth : Method} {c : Code} {O : XO} {K : XK} {r : Int32} {h' : XH}   (C : x_C p s m args meth c O cX12_fits 5 RX12 (some .int))   (ls : Array Slot) (H : Heap) (locs : List Loc) (h : XH) (hl : lv_has ls 5 []) (hR : x_R O K h H) (hS : va_S (oA O) s.heap H locs) (hf : f_X12_fits_63 (oX O) h = some (r, h')) : W p l e (x_rm 7 173) s m args below meth c H locs 0 0 (MQ below (x_Qc O K h' (some (.int r))) args s 0 0 (oA O)) (F0 m 63 ls []) := by
  have hx := C.1
  have hb := C.2.1
  rw [f_X12_fits_63] at hf
  refine lv_iconst (v := 0) hx hb dX12_fits_63 rfl ?_
  cases hf
  exact x_iret C hR hS dX12_fits_64
set_option maxRecDepth 20000 in
theorem B_X12_fits_70 {p : Program} {l : Launch} {e : Env} {s : State} {m : MethodId} {args : Array Value} {below : List Frame} {meth : Method} {c : Code} {O : XO} {K : XK} {r : Int32} {h' : XH}   (C : x_C p s m args meth c O cX12_fits 5 RX12 (some .int))   : ∀ (n : Nat) (ls : Array Slot) (H : Heap) (locs : List Loc) (h : XH) (v1 : Int32) (v2 : Int32) (v3 : Int32) (v4 : Int32) (hl : lv_has ls 5 [(0, .ref (oX O + 64)), (1, .int v1), (2, .int v2), (3, .int v3), (4, .int v4)]) (hR : x_R O K h H) (hS : va_S (oA O) s.heap H locs) (hf : f_X12_fits_70 (oX O) n h v1 v2 v3 v4 = some (r, h')), W p l e (x_rm 7 173) s m args below meth c H locs 0 0 (MQ below (x_Qc O K h' (some (.int r))) args s 0 0 (oA O)) (F0 m 70 ls []) := by
  have hx := C.1
  have hb := C.2.1
  intro n
  induction n with
  | zero =>
    intro ls H locs h v1 v2 v3 v4 hl hR hS hf
    rw [f_X12_fits_70] at hf
    cases hf
  | succ n ih =>
    intro ls H locs h v1 v2 v3 v4 hl hR hS hf
    rw [f_X12_fits_70] at hf
    refine lv_iload hx hb dX12_fits_70 (lv_at hl 4 rfl) ?_
    refine lv_aload_n hx hb dX12_fits_72 rfl (lv_at hl 0 rfl) ?_
    refine gf_12_1 C hR (x_k hR 64 rfl) tw_1544 dX12_fits_73 ?_
    refine lv_iconst (v := 2) hx hb dX12_fits_76 rfl ?_
    obtain ⟨g9, hf⟩ := x_gd hf
    refine x_iald C hR (x_k1 (x_k hR 65 rfl)) (x_k2 (x_k hR 65 rfl) g9) dX12_fits_77 ?_
    refine lv_icmp_ge (tgt := 123) hx hb dX12_fits_78 rfl (fun hc => ?_) (fun hc => ?_)
    · have hf := x_ip hc hf
      refine lv_iload_n hx hb dX12_fits_123 rfl (lv_at hl 3 rfl) ?_
      cases hf
      exact x_iret C hR hS dX12_fits_124
    · have hf := x_in hc hf
      refine lv_iload_n hx hb dX12_fits_81 rfl (lv_at hl 3 rfl) ?_
      refine lv_aload_n hx hb dX12_fits_82 rfl (lv_at hl 0 rfl) ?_
      refine lv_iload hx hb dX12_fits_83 (lv_at hl 4 rfl) ?_
      refine lv_iload_n hx hb dX12_fits_85 rfl (lv_at hl 1 rfl) ?_
      refine lv_iconst (v := 0) hx hb dX12_fits_86 rfl ?_
      obtain ⟨q10, eq10, hf⟩ := x_bd hf
      refine x_cVi3 C hR hS (S_X12_awaitedIn  eq10) (x_k hR 64 rfl) (by decide) rfl mf_X12_awaitedIn tw_1907 (Nat.le_of_ble_eq_true rfl) (Nat.le_of_ble_eq_true rfl) hl.1 (Nat.le_of_ble_eq_true rfl) dX12_fits_87 ⟨Nat.le_refl _, Nat.le_refl _⟩ (fun H locs hR hS => ?_)
      refine lv_bipush (v := 100) hx hb dX12_fits_90 rfl ?_
      refine lv_aload_n hx hb dX12_fits_92 rfl (lv_at hl 0 rfl) ?_
      refine lv_iload_n hx hb dX12_fits_93 rfl (lv_at hl 1 rfl) ?_
      refine lv_iconst (v := 0) hx hb dX12_fits_94 rfl ?_
      obtain ⟨v_11, ev_11, hf⟩ := x_bd hf
      refine x_cVi2 C hR hS (S_X12_kindsOf  ev_11) (x_k hR 64 rfl) (by decide) rfl mf_X12_kindsOf tw_1959 (Nat.le_of_ble_eq_true rfl) (Nat.le_of_ble_eq_true rfl) hl.1 (Nat.le_of_ble_eq_true rfl) dX12_fits_95 ⟨Nat.le_refl _, Nat.le_refl _⟩ (fun H locs hR hS => ?_)
      refine lv_imul hx hb dX12_fits_98 ?_
      refine lv_isub hx hb dX12_fits_99 ?_
      refine x_cSi1 C hR hS (S_J9_abs_0f7a4  rfl) mf_J9_abs_0f7a4 tw_1970 (Nat.le_of_ble_eq_true rfl) (Nat.le_of_ble_eq_true rfl) hl.1 (Nat.le_of_ble_eq_true rfl) dX12_fits_100 ⟨Nat.le_refl _, Nat.le_refl _⟩ (fun H locs hR hS => ?_)
      refine lv_iload_n hx hb dX12_fits_103 rfl (lv_at hl 2 rfl) ?_
      have kM12 : ∀ (ls : Array Slot) (H : Heap) (locs : List Loc), lv_has ls 5 [(0, .ref (oX O + 64)), (1, .int v1), (2, .int v2), (4, .int v4)] → x_R O K q10.2 H → va_S (oA O) s.heap H locs → W p l e (x_rm 7 173) s m args below meth c H locs 0 0 (MQ below (x_Qc O K h' (some (.int r))) args s 0 0 (oA O)) (F0 m 115 ls [.int (if v2 < (f_J9_abs_0f7a4 q10.2 (q10.1 - (100 * v_11))) then 0 else (x_shl 1 v4)), .int v3]) := by
        intro ls H locs hl hR hS
        refine lv_ior hx hb dX12_fits_115 ?_
        obtain ⟨t13, et13, hf⟩ := x_lt hf
        refine x_nmi et13 ?_
        refine lv_istore_n (lv' := [(3, _), (0, _), (1, _), (2, _), (4, _)]) hx hb dX12_fits_116 rfl hl (Nat.le_of_ble_eq_true rfl) rfl (fun ls hl => ?_)
        refine lv_iinc (k := 4) (v := _ + 1) (lv' := [(4, _), (3, _), (0, _), (1, _), (2, _)]) hx hb dX12_fits_117 hl rfl (x_inc 1 1 rfl _) (Nat.le_of_ble_eq_true rfl) rfl (fun ls hl => ?_)
        refine lv_goto (tgt := 70) hx hb dX12_fits_120 rfl ?_
        exact ih ls _ _ q10.2 _ _ _ _  (lv_sub hl [2, 3, 4, 1, 0] rfl) hR hS hf
      refine lv_icmp_gt (tgt := 114) hx hb dX12_fits_104 rfl (fun hc => ?_) (fun hc => ?_)
      · try simp only [if_pos hc] at kM12
        refine lv_iconst (v := 0) hx hb dX12_fits_114 rfl ?_
        exact kM12 ls _ _ (lv_sub hl [0, 1, 2, 4] rfl) hR hS
      · try simp only [if_neg hc] at kM12
        refine lv_iconst (v := 1) hx hb dX12_fits_107 rfl ?_
        refine lv_iload hx hb dX12_fits_108 (lv_at hl 4 rfl) ?_
        refine lv_ishl hx hb dX12_fits_110 ?_
        refine lv_goto (tgt := 115) hx hb dX12_fits_111 rfl ?_
        exact kM12 ls _ _ (lv_sub hl [0, 1, 2, 4] rfl) hR hS
set_option maxRecDepth 20000 in
theorem S_X12_fits {l : Launch} {O : XO} {K : XK} {h : XH} {v1 : Int32} {v2 : Int32}  {r : Int32} {h' : XH}  (hf : f_X12_fits (oX O) h v1 v2 = some (r, h')) : x_M l O K yX12_fits cX12_fits 5 (some .int) 7 173 h [.ref (oX O + 64), .int v1, .int v2] (some (.int r)) h' := by
  refine x_enter (by decide) (Nat.le_of_ble_eq_true rfl) (fun p e s m args below meth c C hR ls hl => ?_)
  have hS : va_S (oA O) s.heap s.heap [] := va_S.rf
  have hx := C.1
  have hb := C.2.1
  have hl : lv_has ls 5 [(0, .ref (oX O + 64)), (1, .int v1), (2, .int v2)] := hl
  rw [f_X12_fits] at hf
  refine lv_aload_n hx hb dX12_fits_0 rfl (lv_at hl 0 rfl) ?_
  refine lv_iconst (v := 0) hx hb dX12_fits_1 rfl ?_
  obtain ⟨h1, eh1, hf⟩ := x_lt hf
  refine pf_12_0 C hR hS (x_k hR 64 rfl) tw_1543 dX12_fits_2 (fun H locs hR hS => ?_)
  rw [← eh1] at hR
  refine lv_aload_n hx hb dX12_fits_5 rfl (lv_at hl 0 rfl) ?_
  refine lv_aload_n hx hb dX12_fits_6 rfl (lv_at hl 0 rfl) ?_
  refine lv_iload_n hx hb dX12_fits_7 rfl (lv_at hl 1 rfl) ?_
  obtain ⟨v_2, ev_2, hf⟩ := x_bd hf
  refine x_cVi1 C hR hS (S_X12_noPack  ev_2) (x_k hR 64 rfl) (by decide) rfl mf_X12_noPack tw_1802 (Nat.le_of_ble_eq_true rfl) (Nat.le_of_ble_eq_true rfl) hl.1 (Nat.le_of_ble_eq_true rfl) dX12_fits_8 ⟨Nat.le_refl _, Nat.le_refl _⟩ (fun H locs hR hS => ?_)
  refine lv_iconst (v := 1) hx hb dX12_fits_11 rfl ?_
  obtain ⟨q3, eq3, hf⟩ := x_bd hf
  refine x_cVi2 C hR hS (S_X12_throwsIf  eq3) (x_k hR 64 rfl) (by decide) rfl mf_X12_throwsIf tw_1741 (Nat.le_of_ble_eq_true rfl) (Nat.le_of_ble_eq_true rfl) hl.1 (Nat.le_of_ble_eq_true rfl) dX12_fits_12 ⟨Nat.le_refl _, Nat.le_refl _⟩ (fun H locs hR hS => ?_)
  refine lv_if_ne (tgt := 63) hx hb dX12_fits_15 rfl (fun hc => ?_) (fun hc => ?_)
  · have hf := x_in hc hf
    exact B_X12_fits_63  C   ls _ _ q3.2  (lv_sub hl [] rfl) hR hS hf
  · have hf := x_ip hc hf
    refine lv_aload_n hx hb dX12_fits_18 rfl (lv_at hl 0 rfl) ?_
    refine lv_aload_n hx hb dX12_fits_19 rfl (lv_at hl 0 rfl) ?_
    refine lv_iload_n hx hb dX12_fits_20 rfl (lv_at hl 1 rfl) ?_
    obtain ⟨v_4, ev_4, hf⟩ := x_bd hf
    refine x_cVi1 C hR hS (S_X12_isPut  ev_4) (x_k hR 64 rfl) (by decide) rfl mf_X12_isPut tw_1818 (Nat.le_of_ble_eq_true rfl) (Nat.le_of_ble_eq_true rfl) hl.1 (Nat.le_of_ble_eq_true rfl) dX12_fits_21 ⟨Nat.le_refl _, Nat.le_refl _⟩ (fun H locs hR hS => ?_)
    have kM5 : ∀ (ls : Array Slot) (H : Heap) (locs : List Loc), lv_has ls 5 [(0, .ref (oX O + 64)), (1, .int v1), (2, .int v2)] → x_R O K q3.2 H → va_S (oA O) s.heap H locs → W p l e (x_rm 7 173) s m args below meth c H locs 0 0 (MQ below (x_Qc O K h' (some (.int r))) args s 0 0 (oA O)) (F0 m 32 ls [.int (if v_4 = 0 then 1 else 0), .ref (oX O + 64)]) := by
      intro ls H locs hl hR hS
      refine lv_iconst (v := 2) hx hb dX12_fits_32 rfl ?_
      obtain ⟨q6, eq6, hf⟩ := x_bd hf
      refine x_cVi2 C hR hS (S_X12_throwsIf  eq6) (x_k hR 64 rfl) (by decide) rfl mf_X12_throwsIf tw_1741 (Nat.le_of_ble_eq_true rfl) (Nat.le_of_ble_eq_true rfl) hl.1 (Nat.le_of_ble_eq_true rfl) dX12_fits_33 ⟨Nat.le_refl _, Nat.le_refl _⟩ (fun H locs hR hS => ?_)
      refine lv_if_ne (tgt := 63) hx hb dX12_fits_36 rfl (fun hc => ?_) (fun hc => ?_)
      · have hf := x_in hc hf
        exact B_X12_fits_63  C   ls _ _ q6.2  (lv_sub hl [] rfl) hR hS hf
      · have hf := x_ip hc hf
        refine lv_aload_n hx hb dX12_fits_39 rfl (lv_at hl 0 rfl) ?_
        refine lv_iload_n hx hb dX12_fits_40 rfl (lv_at hl 2 rfl) ?_
        refine lv_iconst (v := 0) hx hb dX12_fits_41 rfl ?_
        refine lv_sipush (v := 5200) hx hb dX12_fits_42 rfl ?_
        refine x_cSi3 C hR hS (S_X12_in  rfl) mf_X12_in tw_1756 (Nat.le_of_ble_eq_true rfl) (Nat.le_of_ble_eq_true rfl) hl.1 (Nat.le_of_ble_eq_true rfl) dX12_fits_45 ⟨Nat.le_refl _, Nat.le_refl _⟩ (fun H locs hR hS => ?_)
        have kM7 : ∀ (ls : Array Slot) (H : Heap) (locs : List Loc), lv_has ls 5 [(0, .ref (oX O + 64)), (1, .int v1), (2, .int v2)] → x_R O K q6.2 H → va_S (oA O) s.heap H locs → W p l e (x_rm 7 173) s m args below meth c H locs 0 0 (MQ below (x_Qc O K h' (some (.int r))) args s 0 0 (oA O)) (F0 m 56 ls [.int (if (f_X12_in q6.2 v2 0 5200) = 0 then 1 else 0), .ref (oX O + 64)]) := by
          intro ls H locs hl hR hS
          refine lv_iconst (v := 3) hx hb dX12_fits_56 rfl ?_
          obtain ⟨q8, eq8, hf⟩ := x_bd hf
          refine x_cVi2 C hR hS (S_X12_throwsIf  eq8) (x_k hR 64 rfl) (by decide) rfl mf_X12_throwsIf tw_1741 (Nat.le_of_ble_eq_true rfl) (Nat.le_of_ble_eq_true rfl) hl.1 (Nat.le_of_ble_eq_true rfl) dX12_fits_57 ⟨Nat.le_refl _, Nat.le_refl _⟩ (fun H locs hR hS => ?_)
          refine lv_if_eq (tgt := 65) hx hb dX12_fits_60 rfl (fun hc => ?_) (fun hc => ?_)
          · have hf := x_ip hc hf
            refine lv_iconst (v := 0) hx hb dX12_fits_65 rfl ?_
            refine lv_istore_n (lv' := [(3, _), (0, _), (1, _), (2, _)]) hx hb dX12_fits_66 rfl hl (Nat.le_of_ble_eq_true rfl) rfl (fun ls hl => ?_)
            refine lv_iconst (v := 0) hx hb dX12_fits_67 rfl ?_
            refine lv_istore (lv' := [(4, _), (3, _), (0, _), (1, _), (2, _)]) hx hb dX12_fits_68 hl (Nat.le_of_ble_eq_true rfl) rfl (fun ls hl => ?_)
            exact B_X12_fits_70  C  x_FU ls _ _ q8.2 _ _ _ _  (lv_sub hl [2, 3, 4, 1, 0] rfl) hR hS hf
          · have hf := x_in hc hf
            exact B_X12_fits_63  C   ls _ _ q8.2  (lv_sub hl [] rfl) hR hS hf
        refine lv_if_ne (tgt := 55) hx hb dX12_fits_48 rfl (fun hc => ?_) (fun hc => ?_)
        · try simp only [if_neg hc] at kM7
          refine lv_iconst (v := 0) hx hb dX12_fits_55 rfl ?_
          exact kM7 ls _ _ (lv_sub hl [0, 1, 2] rfl) hR hS
        · try simp only [if_pos hc] at kM7
          refine lv_iconst (v := 1) hx hb dX12_fits_51 rfl ?_
          refine lv_goto (tgt := 56) hx hb dX12_fits_52 rfl ?_
          exact kM7 ls _ _ (lv_sub hl [0, 1, 2] rfl) hR hS
    refine lv_if_ne (tgt := 31) hx hb dX12_fits_24 rfl (fun hc => ?_) (fun hc => ?_)
    · try simp only [if_neg hc] at kM5
      refine lv_iconst (v := 0) hx hb dX12_fits_31 rfl ?_
      exact kM5 ls _ _ (lv_sub hl [0, 1, 2] rfl) hR hS
    · try simp only [if_pos hc] at kM5
      refine lv_iconst (v := 1) hx hb dX12_fits_27 rfl ?_
      refine lv_goto (tgt := 32) hx hb dX12_fits_28 rfl ?_
      exact kM5 ls _ _ (lv_sub hl [0, 1, 2] rfl) hR hS
def f_X12_guess_77 (x : Nat) (h : XH) : Option (Int32 × XH) := some (0, h)
def f_X12_guess_190 (x : Nat) : Nat → XH → Int32 → Int32 → Int32 → Int32 → Int32 → Int32 → Int32 → Int32 → Int32 → Option (Int32 × XH)
  | 0, _, _, _, _, _, _, _, _, _, _ => none
  | n + 1, h, v1, v2, v3, v4, v5, v6, v7, v8, v9 => if (f_J9_min_7cf53 h v5 v4) < v9 then Option.bind (f_X12_common h v7 v8) (fun v_12 => if v3 = 0 then some (v6, h) else if v3 = 1 then if v_12 = 0 then none else some ((v7 / v_12), h) else if v_12 = 0 then none else some ((v8 / v_12), h)) else Option.bind (f_X12_guesses x h v1 v2 v9 v4) (fun h15 => f_X12_guess_190 x n h15 v1 v2 v3 v4 v5 (if v6 < 0 then v9 else (if 0 < (lg_cmp ((h15.1 (x + 64) 20).toInt64 * v8.toInt64) (v7.toInt64 * (h15.1 (x + 64) 21).toInt64)) then v9 else v6)) (if v6 < 0 then (h15.1 (x + 64) 20) else (if 0 < (lg_cmp ((h15.1 (x + 64) 20).toInt64 * v8.toInt64) (v7.toInt64 * (h15.1 (x + 64) 21).toInt64)) then (h15.1 (x + 64) 20) else v7)) (if v6 < 0 then (h15.1 (x + 64) 21) else (if 0 < (lg_cmp ((h15.1 (x + 64) 20).toInt64 * v8.toInt64) (v7.toInt64 * (h15.1 (x + 64) 21).toInt64)) then (h15.1 (x + 64) 21) else v8)) (v9 + 1))
def f_X12_guess_178 (x : Nat) (h : XH) (v1 : Int32) (v2 : Int32) (v3 : Int32) (v4 : Int32) (v5 : Int32) : Option (Int32 × XH) := f_X12_guess_190 x x_FU h v1 v2 v3 v4 v5 (-1) 0 1 0
def f_X12_guess_172 (k127 : XH → Int32 → Int32 → Int32 → Int32 → Int32 → Int32 → Option (Int32 × XH)) (x : Nat) (h : XH) (v1 : Int32) (v2 : Int32) (v3 : Int32) (v4 : Int32) (v5 : Int32) (v6 : Int32) : Option (Int32 × XH) := k127 h v1 v2 v3 v4 v5 (v6 + 1)
def f_X12_guess_127 (x : Nat) : Nat → XH → Int32 → Int32 → Int32 → Int32 → Int32 → Int32 → Option (Int32 × XH)
  | 0, _, _, _, _, _, _, _ => none
  | n + 1, h, v1, v2, v3, v4, v5, v6 => Option.bind (f_X12_of x h v2 2) (fun v_11 => if v_11 ≤ v6 then f_X12_guess_178 x h v1 v2 v3 v4 v5 else if 5 ≤ v5 then f_X12_guess_178 x h v1 v2 v3 v4 v5 else Option.bind (f_X12_of x h v2 (29 + v6)) (fun v_17 => if v_17 < 0 then if x_b v5 6 = true then x_let (x_i h (x + 71) v5.toNatClampNeg v6) (fun h19 => f_X12_guess_172 (f_X12_guess_127 x n) x h19 v1 v2 v3 v4 (v5 + 1) v6) else none else f_X12_guess_172 (f_X12_guess_127 x n) x h v1 v2 v3 v4 v5 v6))
def f_X12_guess_94 (x : Nat) : Nat → XH → Int32 → Int32 → Int32 → Int32 → Int32 → Option (Int32 × XH)
  | 0, _, _, _, _, _, _ => none
  | n + 1, h, v1, v2, v3, v4, v5 => if v4 ≤ v5 then f_X12_guess_127 x x_FU h v1 v2 v3 v4 0 0 else Option.bind (f_X12_lackOf x h v2 v5) (fun v_20 => if x_b v5 6 = true then x_let (x_i h (x + 72) v5.toNatClampNeg v_20) (fun h22 => f_X12_guess_94 x n h22 v1 v2 v3 v4 (v5 + 1)) else none)
def f_X12_guess_27 (x : Nat) (h : XH) (v1 : Int32) (v2 : Int32) (v3 : Int32) (s1 : Int32) : Option (Int32 × XH) := Option.bind (f_X12_throwsIf x h s1 1) (fun q3 => if q3.1 = 0 then Option.bind (f_X12_isPut x q3.2 v2) (fun v_4 => Option.bind (f_X12_throwsIf x q3.2 (if v_4 = 0 then 1 else 0) 2) (fun q6 => if q6.1 = 0 then Option.bind (f_X12_throwsIf x q6.2 (if (f_X12_in q6.2 v3 0 2) = 0 then 1 else 0) 3) (fun q8 => if q8.1 = 0 then Option.bind (f_X12_lackMany x q8.2 v2) (fun v_9 => x_let ((f_J9_min_7cf53 q8.2 6 v_9) : Int32) (fun t10 => f_X12_guess_94 x x_FU q8.2 v1 v2 v3 t10 0)) else f_X12_guess_77 x q8.2) else f_X12_guess_77 x q6.2)) else f_X12_guess_77 x q3.2)
def f_X12_guess_22 (x : Nat) (h : XH) (v1 : Int32) (v2 : Int32) (v3 : Int32) : Option (Int32 × XH) := f_X12_guess_27 x h v1 v2 v3 1
def f_X12_guess (x : Nat) (h : XH) (v1 : Int32) (v2 : Int32) (v3 : Int32) : Option (Int32 × XH) := x_let (x_i h (x + 64) 0 0) (fun h1 => Option.bind (f_X12_noRule x h1 v1) (fun v_2 => if v_2 = 0 then Option.bind (f_X12_noPack x h1 v2) (fun v_23 => Option.bind (f_X12_throwsIf x h1 (if v_23 = 0 then 0 else 1) 1) (fun q25 => if q25.1 = 0 then Option.bind (f_X12_isPut x q25.2 v2) (fun v_26 => Option.bind (f_X12_throwsIf x q25.2 (if v_26 = 0 then 1 else 0) 2) (fun q28 => if q28.1 = 0 then Option.bind (f_X12_throwsIf x q28.2 (if (f_X12_in q28.2 v3 0 2) = 0 then 1 else 0) 3) (fun q30 => if q30.1 = 0 then Option.bind (f_X12_lackMany x q30.2 v2) (fun v_31 => x_let ((f_J9_min_7cf53 q30.2 6 v_31) : Int32) (fun t32 => f_X12_guess_94 x x_FU q30.2 v1 v2 v3 t32 0)) else f_X12_guess_77 x q30.2) else f_X12_guess_77 x q28.2)) else f_X12_guess_77 x q25.2)) else f_X12_guess_22 x h1 v1 v2 v3))
set_option maxRecDepth 20000 in
theorem B_X12_guess_77 {p : Program} {l : Launch} {e : Env} {s : State} {m : MethodId} {args : Array Value} {below : List Frame} {meth : Method} {c : Code} {O : XO} {K : XK} {r : Int32} {h' : XH}   (C : x_C p s m args meth c O cX12_guess 10 RX12 (some .int))   (ls : Array Slot) (H : Heap) (locs : List Loc) (h : XH) (hl : lv_has ls 10 []) (hR : x_R O K h H) (hS : va_S (oA O) s.heap H locs) (hf : f_X12_guess_77 (oX O) h = some (r, h')) : W p l e (x_rm 8 204) s m args below meth c H locs 0 0 (MQ below (x_Qc O K h' (some (.int r))) args s 0 0 (oA O)) (F0 m 77 ls []) := by
  have hx := C.1
  have hb := C.2.1
  rw [f_X12_guess_77] at hf
  refine lv_iconst (v := 0) hx hb dX12_guess_77 rfl ?_
  cases hf
  exact x_iret C hR hS dX12_guess_78
set_option maxRecDepth 20000 in
theorem B_X12_guess_190 {p : Program} {l : Launch} {e : Env} {s : State} {m : MethodId} {args : Array Value} {below : List Frame} {meth : Method} {c : Code} {O : XO} {K : XK} {r : Int32} {h' : XH}   (C : x_C p s m args meth c O cX12_guess 10 RX12 (some .int))   : ∀ (n : Nat) (ls : Array Slot) (H : Heap) (locs : List Loc) (h : XH) (v1 : Int32) (v2 : Int32) (v3 : Int32) (v4 : Int32) (v5 : Int32) (v6 : Int32) (v7 : Int32) (v8 : Int32) (v9 : Int32) (hl : lv_has ls 10 [(0, .ref (oX O + 64)), (1, .int v1), (2, .int v2), (3, .int v3), (4, .int v4), (5, .int v5), (6, .int v6), (7, .int v7), (8, .int v8), (9, .int v9)]) (hR : x_R O K h H) (hS : va_S (oA O) s.heap H locs) (hf : f_X12_guess_190 (oX O) n h v1 v2 v3 v4 v5 v6 v7 v8 v9 = some (r, h')), W p l e (x_rm 8 204) s m args below meth c H locs 0 0 (MQ below (x_Qc O K h' (some (.int r))) args s 0 0 (oA O)) (F0 m 190 ls []) := by
  have hx := C.1
  have hb := C.2.1
  intro n
  induction n with
  | zero =>
    intro ls H locs h v1 v2 v3 v4 v5 v6 v7 v8 v9 hl hR hS hf
    rw [f_X12_guess_190] at hf
    cases hf
  | succ n ih =>
    intro ls H locs h v1 v2 v3 v4 v5 v6 v7 v8 v9 hl hR hS hf
    rw [f_X12_guess_190] at hf
    refine lv_iload hx hb dX12_guess_190 (lv_at hl 9 rfl) ?_
    refine lv_iload hx hb dX12_guess_192 (lv_at hl 5 rfl) ?_
    refine lv_iload hx hb dX12_guess_194 (lv_at hl 4 rfl) ?_
    refine x_cSi2 C hR hS (S_J9_min_7cf53  rfl) mf_J9_min_7cf53 tw_1901 (Nat.le_of_ble_eq_true rfl) (Nat.le_of_ble_eq_true rfl) hl.1 (Nat.le_of_ble_eq_true rfl) dX12_guess_196 ⟨Nat.le_refl _, Nat.le_refl _⟩ (fun H locs hR hS => ?_)
    refine lv_icmp_gt (tgt := 264) hx hb dX12_guess_199 rfl (fun hc => ?_) (fun hc => ?_)
    · have hf := x_ip hc hf
      refine lv_iload hx hb dX12_guess_264 (lv_at hl 7 rfl) ?_
      refine lv_iload hx hb dX12_guess_266 (lv_at hl 8 rfl) ?_
      obtain ⟨v_12, ev_12, hf⟩ := x_bd hf
      refine x_cSi2 C hR hS (S_X12_common  ev_12) mf_X12_common tw_1967 (Nat.le_of_ble_eq_true rfl) (Nat.le_of_ble_eq_true rfl) hl.1 (Nat.le_of_ble_eq_true rfl) dX12_guess_268 ⟨Nat.le_refl _, Nat.le_refl _⟩ (fun H locs hR hS => ?_)
      refine lv_istore (lv' := [(9, _), (0, _), (1, _), (2, _), (3, _), (4, _), (5, _), (6, _), (7, _), (8, _)]) hx hb dX12_guess_271 hl (Nat.le_of_ble_eq_true rfl) rfl (fun ls hl => ?_)
      refine lv_iload_n hx hb dX12_guess_273 rfl (lv_at hl 4 rfl) ?_
      refine lv_if_ne (tgt := 282) hx hb dX12_guess_274 rfl (fun hc => ?_) (fun hc => ?_)
      · have hf := x_in hc hf
        refine lv_iload_n hx hb dX12_guess_282 rfl (lv_at hl 4 rfl) ?_
        refine lv_iconst (v := 1) hx hb dX12_guess_283 rfl ?_
        refine lv_icmp_ne (tgt := 295) hx hb dX12_guess_284 rfl (fun hc => ?_) (fun hc => ?_)
        · have hf := x_in hc hf
          refine lv_iload hx hb dX12_guess_295 (lv_at hl 9 rfl) ?_
          refine lv_iload hx hb dX12_guess_297 (lv_at hl 0 rfl) ?_
          obtain ⟨g13, hf⟩ := x_gn hf
          refine lv_idiv hx hb dX12_guess_299 g13 ?_
          cases hf
          exact x_iret C hR hS dX12_guess_300
        · have hf := x_ip hc hf
          refine lv_iload hx hb dX12_guess_287 (lv_at hl 8 rfl) ?_
          refine lv_iload hx hb dX12_guess_289 (lv_at hl 0 rfl) ?_
          obtain ⟨g14, hf⟩ := x_gn hf
          refine lv_idiv hx hb dX12_guess_291 g14 ?_
          refine lv_goto (tgt := 300) hx hb dX12_guess_292 rfl ?_
          cases hf
          exact x_iret C hR hS dX12_guess_300
      · have hf := x_ip hc hf
        refine lv_iload hx hb dX12_guess_277 (lv_at hl 7 rfl) ?_
        refine lv_goto (tgt := 300) hx hb dX12_guess_279 rfl ?_
        cases hf
        exact x_iret C hR hS dX12_guess_300
    · have hf := x_in hc hf
      refine lv_aload_n hx hb dX12_guess_202 rfl (lv_at hl 0 rfl) ?_
      refine lv_iload_n hx hb dX12_guess_203 rfl (lv_at hl 1 rfl) ?_
      refine lv_iload_n hx hb dX12_guess_204 rfl (lv_at hl 2 rfl) ?_
      refine lv_iload hx hb dX12_guess_205 (lv_at hl 9 rfl) ?_
      refine lv_iload hx hb dX12_guess_207 (lv_at hl 4 rfl) ?_
      obtain ⟨h15, eh15, hf⟩ := x_bd hf
      refine x_cVv4 C hR hS (S_X12_guesses  eh15) (x_k hR 64 rfl) (by decide) rfl mf_X12_guesses tw_2011 (Nat.le_of_ble_eq_true rfl) (Nat.le_of_ble_eq_true rfl) hl.1 (Nat.le_of_ble_eq_true rfl) dX12_guess_209 ⟨Nat.le_refl _, Nat.le_refl _⟩ (fun H locs hR hS => ?_)
      refine lv_iload hx hb dX12_guess_212 (lv_at hl 6 rfl) ?_
      have kM16 : ∀ (ls : Array Slot) (H : Heap) (locs : List Loc), lv_has ls 10 [(0, .ref (oX O + 64)), (1, .int v1), (2, .int v2), (3, .int v3), (4, .int v4), (5, .int v5), (6, .int (if v6 < 0 then v9 else (if 0 < (lg_cmp ((h15.1 (oX O + 64) 20).toInt64 * v8.toInt64) (v7.toInt64 * (h15.1 (oX O + 64) 21).toInt64)) then v9 else v6))), (7, .int (if v6 < 0 then (h15.1 (oX O + 64) 20) else (if 0 < (lg_cmp ((h15.1 (oX O + 64) 20).toInt64 * v8.toInt64) (v7.toInt64 * (h15.1 (oX O + 64) 21).toInt64)) then (h15.1 (oX O + 64) 20) else v7))), (8, .int (if v6 < 0 then (h15.1 (oX O + 64) 21) else (if 0 < (lg_cmp ((h15.1 (oX O + 64) 20).toInt64 * v8.toInt64) (v7.toInt64 * (h15.1 (oX O + 64) 21).toInt64)) then (h15.1 (oX O + 64) 21) else v8))), (9, .int v9)] → x_R O K h15 H → va_S (oA O) s.heap H locs → W p l e (x_rm 8 204) s m args below meth c H locs 0 0 (MQ below (x_Qc O K h' (some (.int r))) args s 0 0 (oA O)) (F0 m 258 ls []) := by
        intro ls H locs hl hR hS
        refine lv_iinc (k := 9) (v := _ + 1) (lv' := [(9, _), (0, _), (1, _), (2, _), (3, _), (4, _), (5, _), (6, _), (7, _), (8, _)]) hx hb dX12_guess_258 hl rfl (x_inc 1 1 rfl _) (Nat.le_of_ble_eq_true rfl) rfl (fun ls hl => ?_)
        refine lv_goto (tgt := 190) hx hb dX12_guess_261 rfl ?_
        exact ih ls _ _ h15 _ _ _ _ _ _ _ _ _  (lv_sub hl [1, 2, 3, 4, 5, 6, 7, 8, 9, 0] rfl) hR hS hf
      refine lv_if_lt (tgt := 242) hx hb dX12_guess_214 rfl (fun hc => ?_) (fun hc => ?_)
      · try simp only [if_pos hc] at kM16
        refine lv_iload hx hb dX12_guess_242 (lv_at hl 9 rfl) ?_
        refine lv_istore (lv' := [(6, _), (0, _), (1, _), (2, _), (3, _), (4, _), (5, _), (7, _), (8, _), (9, _)]) hx hb dX12_guess_244 hl (Nat.le_of_ble_eq_true rfl) rfl (fun ls hl => ?_)
        refine lv_aload_n hx hb dX12_guess_246 rfl (lv_at hl 1 rfl) ?_
        refine gf_12_20 C hR (x_k hR 64 rfl) tw_1563 dX12_guess_247 ?_
        refine lv_istore (lv' := [(7, _), (6, _), (0, _), (1, _), (2, _), (3, _), (4, _), (5, _), (8, _), (9, _)]) hx hb dX12_guess_250 hl (Nat.le_of_ble_eq_true rfl) rfl (fun ls hl => ?_)
        refine lv_aload_n hx hb dX12_guess_252 rfl (lv_at hl 2 rfl) ?_
        refine gf_12_21 C hR (x_k hR 64 rfl) tw_1564 dX12_guess_253 ?_
        refine lv_istore (lv' := [(8, _), (7, _), (6, _), (0, _), (1, _), (2, _), (3, _), (4, _), (5, _), (9, _)]) hx hb dX12_guess_256 hl (Nat.le_of_ble_eq_true rfl) rfl (fun ls hl => ?_)
        exact kM16 ls _ _ (lv_sub hl [3, 4, 5, 6, 7, 8, 2, 1, 0, 9] rfl) hR hS
      · try simp only [if_neg hc] at kM16
        refine lv_aload_n hx hb dX12_guess_217 rfl (lv_at hl 0 rfl) ?_
        refine gf_12_20 C hR (x_k hR 64 rfl) tw_1563 dX12_guess_218 ?_
        refine lv_i2l hx hb dX12_guess_221 rfl ?_
        refine lv_iload hx hb dX12_guess_222 (lv_at hl 8 rfl) ?_
        refine lv_i2l hx hb dX12_guess_224 rfl ?_
        refine lv_lmul hx hb dX12_guess_225 ?_
        refine lv_iload hx hb dX12_guess_226 (lv_at hl 7 rfl) ?_
        refine lv_i2l hx hb dX12_guess_228 rfl ?_
        refine lv_aload_n hx hb dX12_guess_229 rfl (lv_at hl 0 rfl) ?_
        refine gf_12_21 C hR (x_k hR 64 rfl) tw_1564 dX12_guess_230 ?_
        refine lv_i2l hx hb dX12_guess_233 rfl ?_
        refine lv_lmul hx hb dX12_guess_234 ?_
        refine W.lcmp hx hb dX12_guess_235 ?_
        refine lv_if_gt (tgt := 242) hx hb dX12_guess_236 rfl (fun hc => ?_) (fun hc => ?_)
        · try simp only [if_pos hc] at kM16
          refine lv_iload hx hb dX12_guess_242 (lv_at hl 9 rfl) ?_
          refine lv_istore (lv' := [(6, _), (0, _), (1, _), (2, _), (3, _), (4, _), (5, _), (7, _), (8, _), (9, _)]) hx hb dX12_guess_244 hl (Nat.le_of_ble_eq_true rfl) rfl (fun ls hl => ?_)
          refine lv_aload_n hx hb dX12_guess_246 rfl (lv_at hl 1 rfl) ?_
          refine gf_12_20 C hR (x_k hR 64 rfl) tw_1563 dX12_guess_247 ?_
          refine lv_istore (lv' := [(7, _), (6, _), (0, _), (1, _), (2, _), (3, _), (4, _), (5, _), (8, _), (9, _)]) hx hb dX12_guess_250 hl (Nat.le_of_ble_eq_true rfl) rfl (fun ls hl => ?_)
          refine lv_aload_n hx hb dX12_guess_252 rfl (lv_at hl 2 rfl) ?_
          refine gf_12_21 C hR (x_k hR 64 rfl) tw_1564 dX12_guess_253 ?_
          refine lv_istore (lv' := [(8, _), (7, _), (6, _), (0, _), (1, _), (2, _), (3, _), (4, _), (5, _), (9, _)]) hx hb dX12_guess_256 hl (Nat.le_of_ble_eq_true rfl) rfl (fun ls hl => ?_)
          exact kM16 ls _ _ (lv_sub hl [3, 4, 5, 6, 7, 8, 2, 1, 0, 9] rfl) hR hS
        · try simp only [if_neg hc] at kM16
          refine lv_goto (tgt := 258) hx hb dX12_guess_239 rfl ?_
          exact kM16 ls _ _ (lv_sub hl [0, 1, 2, 3, 4, 5, 6, 7, 8, 9] rfl) hR hS
set_option maxRecDepth 20000 in
theorem B_X12_guess_178 {p : Program} {l : Launch} {e : Env} {s : State} {m : MethodId} {args : Array Value} {below : List Frame} {meth : Method} {c : Code} {O : XO} {K : XK} {r : Int32} {h' : XH}   (C : x_C p s m args meth c O cX12_guess 10 RX12 (some .int))   (ls : Array Slot) (H : Heap) (locs : List Loc) (h : XH) (v1 : Int32) (v2 : Int32) (v3 : Int32) (v4 : Int32) (v5 : Int32) (hl : lv_has ls 10 [(0, .ref (oX O + 64)), (1, .int v1), (2, .int v2), (3, .int v3), (4, .int v4), (5, .int v5)]) (hR : x_R O K h H) (hS : va_S (oA O) s.heap H locs) (hf : f_X12_guess_178 (oX O) h v1 v2 v3 v4 v5 = some (r, h')) : W p l e (x_rm 8 204) s m args below meth c H locs 0 0 (MQ below (x_Qc O K h' (some (.int r))) args s 0 0 (oA O)) (F0 m 178 ls []) := by
  have hx := C.1
  have hb := C.2.1
  rw [f_X12_guess_178] at hf
  refine lv_iconst (v := (-1)) hx hb dX12_guess_178 rfl ?_
  refine lv_istore (lv' := [(6, _), (0, _), (1, _), (2, _), (3, _), (4, _), (5, _)]) hx hb dX12_guess_179 hl (Nat.le_of_ble_eq_true rfl) rfl (fun ls hl => ?_)
  refine lv_iconst (v := 0) hx hb dX12_guess_181 rfl ?_
  refine lv_istore (lv' := [(7, _), (6, _), (0, _), (1, _), (2, _), (3, _), (4, _), (5, _)]) hx hb dX12_guess_182 hl (Nat.le_of_ble_eq_true rfl) rfl (fun ls hl => ?_)
  refine lv_iconst (v := 1) hx hb dX12_guess_184 rfl ?_
  refine lv_istore (lv' := [(8, _), (7, _), (6, _), (0, _), (1, _), (2, _), (3, _), (4, _), (5, _)]) hx hb dX12_guess_185 hl (Nat.le_of_ble_eq_true rfl) rfl (fun ls hl => ?_)
  refine lv_iconst (v := 0) hx hb dX12_guess_187 rfl ?_
  refine lv_istore (lv' := [(9, _), (8, _), (7, _), (6, _), (0, _), (1, _), (2, _), (3, _), (4, _), (5, _)]) hx hb dX12_guess_188 hl (Nat.le_of_ble_eq_true rfl) rfl (fun ls hl => ?_)
  exact B_X12_guess_190  C  x_FU ls _ _ h _ _ _ _ _ _ _ _ _  (lv_sub hl [4, 5, 6, 7, 8, 9, 3, 2, 1, 0] rfl) hR hS hf
set_option maxRecDepth 20000 in
theorem B_X12_guess_172 {p : Program} {l : Launch} {e : Env} {s : State} {m : MethodId} {args : Array Value} {below : List Frame} {meth : Method} {c : Code} {O : XO} {K : XK} {r : Int32} {h' : XH}  {k127 : XH → Int32 → Int32 → Int32 → Int32 → Int32 → Int32 → Option (Int32 × XH)} (C : x_C p s m args meth c O cX12_guess 10 RX12 (some .int)) (hk127 : ∀ (ls : Array Slot) (H : Heap) (locs : List Loc) (h : XH) (v1 : Int32) (v2 : Int32) (v3 : Int32) (v4 : Int32) (v5 : Int32) (v6 : Int32), lv_has ls 10 [(0, .ref (oX O + 64)), (1, .int v1), (2, .int v2), (3, .int v3), (4, .int v4), (5, .int v5), (6, .int v6)] → x_R O K h H → va_S (oA O) s.heap H locs → k127 h v1 v2 v3 v4 v5 v6 = some (r, h') → W p l e (x_rm 8 204) s m args below meth c H locs 0 0 (MQ below (x_Qc O K h' (some (.int r))) args s 0 0 (oA O)) (F0 m 127 ls []))  (ls : Array Slot) (H : Heap) (locs : List Loc) (h : XH) (v1 : Int32) (v2 : Int32) (v3 : Int32) (v4 : Int32) (v5 : Int32) (v6 : Int32) (hl : lv_has ls 10 [(0, .ref (oX O + 64)), (1, .int v1), (2, .int v2), (3, .int v3), (4, .int v4), (5, .int v5), (6, .int v6)]) (hR : x_R O K h H) (hS : va_S (oA O) s.heap H locs) (hf : f_X12_guess_172 k127 (oX O) h v1 v2 v3 v4 v5 v6 = some (r, h')) : W p l e (x_rm 8 204) s m args below meth c H locs 0 0 (MQ below (x_Qc O K h' (some (.int r))) args s 0 0 (oA O)) (F0 m 172 ls []) := by
  have hx := C.1
  have hb := C.2.1
  rw [f_X12_guess_172] at hf
  refine lv_iinc (k := 6) (v := _ + 1) (lv' := [(6, _), (0, _), (1, _), (2, _), (3, _), (4, _), (5, _)]) hx hb dX12_guess_172 hl rfl (x_inc 1 1 rfl _) (Nat.le_of_ble_eq_true rfl) rfl (fun ls hl => ?_)
  refine lv_goto (tgt := 127) hx hb dX12_guess_175 rfl ?_
  exact hk127 ls _ _ h _ _ _ _ _ _  (lv_sub hl [1, 2, 3, 4, 5, 6, 0] rfl) hR hS hf
set_option maxRecDepth 20000 in
theorem B_X12_guess_127 {p : Program} {l : Launch} {e : Env} {s : State} {m : MethodId} {args : Array Value} {below : List Frame} {meth : Method} {c : Code} {O : XO} {K : XK} {r : Int32} {h' : XH}   (C : x_C p s m args meth c O cX12_guess 10 RX12 (some .int))   : ∀ (n : Nat) (ls : Array Slot) (H : Heap) (locs : List Loc) (h : XH) (v1 : Int32) (v2 : Int32) (v3 : Int32) (v4 : Int32) (v5 : Int32) (v6 : Int32) (hl : lv_has ls 10 [(0, .ref (oX O + 64)), (1, .int v1), (2, .int v2), (3, .int v3), (4, .int v4), (5, .int v5), (6, .int v6)]) (hR : x_R O K h H) (hS : va_S (oA O) s.heap H locs) (hf : f_X12_guess_127 (oX O) n h v1 v2 v3 v4 v5 v6 = some (r, h')), W p l e (x_rm 8 204) s m args below meth c H locs 0 0 (MQ below (x_Qc O K h' (some (.int r))) args s 0 0 (oA O)) (F0 m 127 ls []) := by
  have hx := C.1
  have hb := C.2.1
  intro n
  induction n with
  | zero =>
    intro ls H locs h v1 v2 v3 v4 v5 v6 hl hR hS hf
    rw [f_X12_guess_127] at hf
    cases hf
  | succ n ih =>
    intro ls H locs h v1 v2 v3 v4 v5 v6 hl hR hS hf
    rw [f_X12_guess_127] at hf
    refine lv_iload hx hb dX12_guess_127 (lv_at hl 6 rfl) ?_
    refine lv_aload_n hx hb dX12_guess_129 rfl (lv_at hl 0 rfl) ?_
    refine lv_iload_n hx hb dX12_guess_130 rfl (lv_at hl 2 rfl) ?_
    refine lv_iconst (v := 2) hx hb dX12_guess_131 rfl ?_
    obtain ⟨v_11, ev_11, hf⟩ := x_bd hf
    refine x_cVi2 C hR hS (S_X12_of  ev_11) (x_k hR 64 rfl) (by decide) rfl mf_X12_of tw_1806 (Nat.le_of_ble_eq_true rfl) (Nat.le_of_ble_eq_true rfl) hl.1 (Nat.le_of_ble_eq_true rfl) dX12_guess_132 ⟨Nat.le_refl _, Nat.le_refl _⟩ (fun H locs hR hS => ?_)
    refine lv_icmp_ge (tgt := 178) hx hb dX12_guess_135 rfl (fun hc => ?_) (fun hc => ?_)
    · have hf := x_ip hc hf
      exact B_X12_guess_178  C   ls _ _ h _ _ _ _ _  (lv_sub hl [0, 1, 2, 3, 4, 5] rfl) hR hS hf
    · have hf := x_in hc hf
      refine lv_iload hx hb dX12_guess_138 (lv_at hl 5 rfl) ?_
      refine lv_iconst (v := 5) hx hb dX12_guess_140 rfl ?_
      refine lv_icmp_ge (tgt := 178) hx hb dX12_guess_141 rfl (fun hc => ?_) (fun hc => ?_)
      · have hf := x_ip hc hf
        exact B_X12_guess_178  C   ls _ _ h _ _ _ _ _  (lv_sub hl [0, 1, 2, 3, 4, 5] rfl) hR hS hf
      · have hf := x_in hc hf
        refine lv_aload_n hx hb dX12_guess_144 rfl (lv_at hl 0 rfl) ?_
        refine lv_iload_n hx hb dX12_guess_145 rfl (lv_at hl 2 rfl) ?_
        refine lv_bipush (v := 29) hx hb dX12_guess_146 rfl ?_
        refine lv_iload hx hb dX12_guess_148 (lv_at hl 6 rfl) ?_
        refine lv_iadd hx hb dX12_guess_150 ?_
        obtain ⟨v_17, ev_17, hf⟩ := x_bd hf
        refine x_cVi2 C hR hS (S_X12_of  ev_17) (x_k hR 64 rfl) (by decide) rfl mf_X12_of tw_1806 (Nat.le_of_ble_eq_true rfl) (Nat.le_of_ble_eq_true rfl) hl.1 (Nat.le_of_ble_eq_true rfl) dX12_guess_151 ⟨Nat.le_refl _, Nat.le_refl _⟩ (fun H locs hR hS => ?_)
        refine lv_if_lt (tgt := 160) hx hb dX12_guess_154 rfl (fun hc => ?_) (fun hc => ?_)
        · have hf := x_ip hc hf
          refine lv_aload_n hx hb dX12_guess_160 rfl (lv_at hl 0 rfl) ?_
          refine gf_12_17 C hR (x_k hR 64 rfl) tw_1560 dX12_guess_161 ?_
          refine lv_iload hx hb dX12_guess_164 (lv_at hl 5 rfl) ?_
          refine lv_iload hx hb dX12_guess_166 (lv_at hl 6 rfl) ?_
          obtain ⟨g18, hf⟩ := x_gd hf
          obtain ⟨h19, eh19, hf⟩ := x_lt hf
          refine x_iast C hR hS (x_k1 (x_k hR 71 rfl)) (x_k2 (x_k hR 71 rfl) g18) dX12_guess_168 (fun H locs hR hS => ?_)
          rw [← eh19] at hR
          refine lv_iinc (k := 5) (v := _ + 1) (lv' := [(5, _), (0, _), (1, _), (2, _), (3, _), (4, _), (6, _)]) hx hb dX12_guess_169 hl rfl (x_inc 1 1 rfl _) (Nat.le_of_ble_eq_true rfl) rfl (fun ls hl => ?_)
          exact B_X12_guess_172  C ih  ls _ _ h19 _ _ _ _ _ _  (lv_sub hl [1, 2, 3, 4, 5, 0, 6] rfl) hR hS hf
        · have hf := x_in hc hf
          refine lv_goto (tgt := 172) hx hb dX12_guess_157 rfl ?_
          exact B_X12_guess_172  C ih  ls _ _ h _ _ _ _ _ _  (lv_sub hl [0, 1, 2, 3, 4, 5, 6] rfl) hR hS hf
set_option maxRecDepth 20000 in
theorem B_X12_guess_94 {p : Program} {l : Launch} {e : Env} {s : State} {m : MethodId} {args : Array Value} {below : List Frame} {meth : Method} {c : Code} {O : XO} {K : XK} {r : Int32} {h' : XH}   (C : x_C p s m args meth c O cX12_guess 10 RX12 (some .int))   : ∀ (n : Nat) (ls : Array Slot) (H : Heap) (locs : List Loc) (h : XH) (v1 : Int32) (v2 : Int32) (v3 : Int32) (v4 : Int32) (v5 : Int32) (hl : lv_has ls 10 [(0, .ref (oX O + 64)), (1, .int v1), (2, .int v2), (3, .int v3), (4, .int v4), (5, .int v5)]) (hR : x_R O K h H) (hS : va_S (oA O) s.heap H locs) (hf : f_X12_guess_94 (oX O) n h v1 v2 v3 v4 v5 = some (r, h')), W p l e (x_rm 8 204) s m args below meth c H locs 0 0 (MQ below (x_Qc O K h' (some (.int r))) args s 0 0 (oA O)) (F0 m 94 ls []) := by
  have hx := C.1
  have hb := C.2.1
  intro n
  induction n with
  | zero =>
    intro ls H locs h v1 v2 v3 v4 v5 hl hR hS hf
    rw [f_X12_guess_94] at hf
    cases hf
  | succ n ih =>
    intro ls H locs h v1 v2 v3 v4 v5 hl hR hS hf
    rw [f_X12_guess_94] at hf
    refine lv_iload hx hb dX12_guess_94 (lv_at hl 5 rfl) ?_
    refine lv_iload hx hb dX12_guess_96 (lv_at hl 4 rfl) ?_
    refine lv_icmp_ge (tgt := 121) hx hb dX12_guess_98 rfl (fun hc => ?_) (fun hc => ?_)
    · have hf := x_ip hc hf
      refine lv_iconst (v := 0) hx hb dX12_guess_121 rfl ?_
      refine lv_istore (lv' := [(5, _), (0, _), (1, _), (2, _), (3, _), (4, _)]) hx hb dX12_guess_122 hl (Nat.le_of_ble_eq_true rfl) rfl (fun ls hl => ?_)
      refine lv_iconst (v := 0) hx hb dX12_guess_124 rfl ?_
      refine lv_istore (lv' := [(6, _), (5, _), (0, _), (1, _), (2, _), (3, _), (4, _)]) hx hb dX12_guess_125 hl (Nat.le_of_ble_eq_true rfl) rfl (fun ls hl => ?_)
      exact B_X12_guess_127  C  x_FU ls _ _ h _ _ _ _ _ _  (lv_sub hl [2, 3, 4, 5, 6, 1, 0] rfl) hR hS hf
    · have hf := x_in hc hf
      refine lv_aload_n hx hb dX12_guess_101 rfl (lv_at hl 0 rfl) ?_
      refine gf_12_18 C hR (x_k hR 64 rfl) tw_1561 dX12_guess_102 ?_
      refine lv_iload hx hb dX12_guess_105 (lv_at hl 5 rfl) ?_
      refine lv_aload_n hx hb dX12_guess_107 rfl (lv_at hl 0 rfl) ?_
      refine lv_iload_n hx hb dX12_guess_108 rfl (lv_at hl 2 rfl) ?_
      refine lv_iload hx hb dX12_guess_109 (lv_at hl 5 rfl) ?_
      obtain ⟨v_20, ev_20, hf⟩ := x_bd hf
      refine x_cVi2 C hR hS (S_X12_lackOf  ev_20) (x_k hR 64 rfl) (by decide) rfl mf_X12_lackOf tw_2003 (Nat.le_of_ble_eq_true rfl) (Nat.le_of_ble_eq_true rfl) hl.1 (Nat.le_of_ble_eq_true rfl) dX12_guess_111 ⟨Nat.le_refl _, Nat.le_refl _⟩ (fun H locs hR hS => ?_)
      obtain ⟨g21, hf⟩ := x_gd hf
      obtain ⟨h22, eh22, hf⟩ := x_lt hf
      refine x_iast C hR hS (x_k1 (x_k hR 72 rfl)) (x_k2 (x_k hR 72 rfl) g21) dX12_guess_114 (fun H locs hR hS => ?_)
      rw [← eh22] at hR
      refine lv_iinc (k := 5) (v := _ + 1) (lv' := [(5, _), (0, _), (1, _), (2, _), (3, _), (4, _)]) hx hb dX12_guess_115 hl rfl (x_inc 1 1 rfl _) (Nat.le_of_ble_eq_true rfl) rfl (fun ls hl => ?_)
      refine lv_goto (tgt := 94) hx hb dX12_guess_118 rfl ?_
      exact ih ls _ _ h22 _ _ _ _ _  (lv_sub hl [1, 2, 3, 4, 5, 0] rfl) hR hS hf
set_option maxRecDepth 20000 in
theorem B_X12_guess_27 {p : Program} {l : Launch} {e : Env} {s : State} {m : MethodId} {args : Array Value} {below : List Frame} {meth : Method} {c : Code} {O : XO} {K : XK} {r : Int32} {h' : XH}   (C : x_C p s m args meth c O cX12_guess 10 RX12 (some .int))   (ls : Array Slot) (H : Heap) (locs : List Loc) (h : XH) (v1 : Int32) (v2 : Int32) (v3 : Int32) (s1 : Int32) (hl : lv_has ls 10 [(0, .ref (oX O + 64)), (1, .int v1), (2, .int v2), (3, .int v3)]) (hR : x_R O K h H) (hS : va_S (oA O) s.heap H locs) (hf : f_X12_guess_27 (oX O) h v1 v2 v3 s1 = some (r, h')) : W p l e (x_rm 8 204) s m args below meth c H locs 0 0 (MQ below (x_Qc O K h' (some (.int r))) args s 0 0 (oA O)) (F0 m 27 ls [.int s1, .ref (oX O + 64)]) := by
  have hx := C.1
  have hb := C.2.1
  rw [f_X12_guess_27] at hf
  refine lv_iconst (v := 1) hx hb dX12_guess_27 rfl ?_
  obtain ⟨q3, eq3, hf⟩ := x_bd hf
  refine x_cVi2 C hR hS (S_X12_throwsIf  eq3) (x_k hR 64 rfl) (by decide) rfl mf_X12_throwsIf tw_1741 (Nat.le_of_ble_eq_true rfl) (Nat.le_of_ble_eq_true rfl) hl.1 (Nat.le_of_ble_eq_true rfl) dX12_guess_28 ⟨Nat.le_refl _, Nat.le_refl _⟩ (fun H locs hR hS => ?_)
  refine lv_if_ne (tgt := 77) hx hb dX12_guess_31 rfl (fun hc => ?_) (fun hc => ?_)
  · have hf := x_in hc hf
    exact B_X12_guess_77  C   ls _ _ q3.2  (lv_sub hl [] rfl) hR hS hf
  · have hf := x_ip hc hf
    refine lv_aload_n hx hb dX12_guess_34 rfl (lv_at hl 0 rfl) ?_
    refine lv_aload_n hx hb dX12_guess_35 rfl (lv_at hl 0 rfl) ?_
    refine lv_iload_n hx hb dX12_guess_36 rfl (lv_at hl 2 rfl) ?_
    obtain ⟨v_4, ev_4, hf⟩ := x_bd hf
    refine x_cVi1 C hR hS (S_X12_isPut  ev_4) (x_k hR 64 rfl) (by decide) rfl mf_X12_isPut tw_1818 (Nat.le_of_ble_eq_true rfl) (Nat.le_of_ble_eq_true rfl) hl.1 (Nat.le_of_ble_eq_true rfl) dX12_guess_37 ⟨Nat.le_refl _, Nat.le_refl _⟩ (fun H locs hR hS => ?_)
    have kM5 : ∀ (ls : Array Slot) (H : Heap) (locs : List Loc), lv_has ls 10 [(0, .ref (oX O + 64)), (1, .int v1), (2, .int v2), (3, .int v3)] → x_R O K q3.2 H → va_S (oA O) s.heap H locs → W p l e (x_rm 8 204) s m args below meth c H locs 0 0 (MQ below (x_Qc O K h' (some (.int r))) args s 0 0 (oA O)) (F0 m 48 ls [.int (if v_4 = 0 then 1 else 0), .ref (oX O + 64)]) := by
      intro ls H locs hl hR hS
      refine lv_iconst (v := 2) hx hb dX12_guess_48 rfl ?_
      obtain ⟨q6, eq6, hf⟩ := x_bd hf
      refine x_cVi2 C hR hS (S_X12_throwsIf  eq6) (x_k hR 64 rfl) (by decide) rfl mf_X12_throwsIf tw_1741 (Nat.le_of_ble_eq_true rfl) (Nat.le_of_ble_eq_true rfl) hl.1 (Nat.le_of_ble_eq_true rfl) dX12_guess_49 ⟨Nat.le_refl _, Nat.le_refl _⟩ (fun H locs hR hS => ?_)
      refine lv_if_ne (tgt := 77) hx hb dX12_guess_52 rfl (fun hc => ?_) (fun hc => ?_)
      · have hf := x_in hc hf
        exact B_X12_guess_77  C   ls _ _ q6.2  (lv_sub hl [] rfl) hR hS hf
      · have hf := x_ip hc hf
        refine lv_aload_n hx hb dX12_guess_55 rfl (lv_at hl 0 rfl) ?_
        refine lv_iload_n hx hb dX12_guess_56 rfl (lv_at hl 3 rfl) ?_
        refine lv_iconst (v := 0) hx hb dX12_guess_57 rfl ?_
        refine lv_iconst (v := 2) hx hb dX12_guess_58 rfl ?_
        refine x_cSi3 C hR hS (S_X12_in  rfl) mf_X12_in tw_1756 (Nat.le_of_ble_eq_true rfl) (Nat.le_of_ble_eq_true rfl) hl.1 (Nat.le_of_ble_eq_true rfl) dX12_guess_59 ⟨Nat.le_refl _, Nat.le_refl _⟩ (fun H locs hR hS => ?_)
        have kM7 : ∀ (ls : Array Slot) (H : Heap) (locs : List Loc), lv_has ls 10 [(0, .ref (oX O + 64)), (1, .int v1), (2, .int v2), (3, .int v3)] → x_R O K q6.2 H → va_S (oA O) s.heap H locs → W p l e (x_rm 8 204) s m args below meth c H locs 0 0 (MQ below (x_Qc O K h' (some (.int r))) args s 0 0 (oA O)) (F0 m 70 ls [.int (if (f_X12_in q6.2 v3 0 2) = 0 then 1 else 0), .ref (oX O + 64)]) := by
          intro ls H locs hl hR hS
          refine lv_iconst (v := 3) hx hb dX12_guess_70 rfl ?_
          obtain ⟨q8, eq8, hf⟩ := x_bd hf
          refine x_cVi2 C hR hS (S_X12_throwsIf  eq8) (x_k hR 64 rfl) (by decide) rfl mf_X12_throwsIf tw_1741 (Nat.le_of_ble_eq_true rfl) (Nat.le_of_ble_eq_true rfl) hl.1 (Nat.le_of_ble_eq_true rfl) dX12_guess_71 ⟨Nat.le_refl _, Nat.le_refl _⟩ (fun H locs hR hS => ?_)
          refine lv_if_eq (tgt := 79) hx hb dX12_guess_74 rfl (fun hc => ?_) (fun hc => ?_)
          · have hf := x_ip hc hf
            refine lv_bipush (v := 6) hx hb dX12_guess_79 rfl ?_
            refine lv_aload_n hx hb dX12_guess_81 rfl (lv_at hl 0 rfl) ?_
            refine lv_iload_n hx hb dX12_guess_82 rfl (lv_at hl 2 rfl) ?_
            obtain ⟨v_9, ev_9, hf⟩ := x_bd hf
            refine x_cVi1 C hR hS (S_X12_lackMany  ev_9) (x_k hR 64 rfl) (by decide) rfl mf_X12_lackMany tw_1995 (Nat.le_of_ble_eq_true rfl) (Nat.le_of_ble_eq_true rfl) hl.1 (Nat.le_of_ble_eq_true rfl) dX12_guess_83 ⟨Nat.le_refl _, Nat.le_refl _⟩ (fun H locs hR hS => ?_)
            refine x_cSi2 C hR hS (S_J9_min_7cf53  rfl) mf_J9_min_7cf53 tw_1901 (Nat.le_of_ble_eq_true rfl) (Nat.le_of_ble_eq_true rfl) hl.1 (Nat.le_of_ble_eq_true rfl) dX12_guess_86 ⟨Nat.le_refl _, Nat.le_refl _⟩ (fun H locs hR hS => ?_)
            obtain ⟨t10, et10, hf⟩ := x_lt hf
            refine x_nmi et10 ?_
            refine lv_istore (lv' := [(4, _), (0, _), (1, _), (2, _), (3, _)]) hx hb dX12_guess_89 hl (Nat.le_of_ble_eq_true rfl) rfl (fun ls hl => ?_)
            refine lv_iconst (v := 0) hx hb dX12_guess_91 rfl ?_
            refine lv_istore (lv' := [(5, _), (4, _), (0, _), (1, _), (2, _), (3, _)]) hx hb dX12_guess_92 hl (Nat.le_of_ble_eq_true rfl) rfl (fun ls hl => ?_)
            exact B_X12_guess_94  C  x_FU ls _ _ q8.2 _ _ _ _ _  (lv_sub hl [2, 3, 4, 5, 1, 0] rfl) hR hS hf
          · have hf := x_in hc hf
            exact B_X12_guess_77  C   ls _ _ q8.2  (lv_sub hl [] rfl) hR hS hf
        refine lv_if_ne (tgt := 69) hx hb dX12_guess_62 rfl (fun hc => ?_) (fun hc => ?_)
        · try simp only [if_neg hc] at kM7
          refine lv_iconst (v := 0) hx hb dX12_guess_69 rfl ?_
          exact kM7 ls _ _ (lv_sub hl [0, 1, 2, 3] rfl) hR hS
        · try simp only [if_pos hc] at kM7
          refine lv_iconst (v := 1) hx hb dX12_guess_65 rfl ?_
          refine lv_goto (tgt := 70) hx hb dX12_guess_66 rfl ?_
          exact kM7 ls _ _ (lv_sub hl [0, 1, 2, 3] rfl) hR hS
    refine lv_if_ne (tgt := 47) hx hb dX12_guess_40 rfl (fun hc => ?_) (fun hc => ?_)
    · try simp only [if_neg hc] at kM5
      refine lv_iconst (v := 0) hx hb dX12_guess_47 rfl ?_
      exact kM5 ls _ _ (lv_sub hl [0, 1, 2, 3] rfl) hR hS
    · try simp only [if_pos hc] at kM5
      refine lv_iconst (v := 1) hx hb dX12_guess_43 rfl ?_
      refine lv_goto (tgt := 48) hx hb dX12_guess_44 rfl ?_
      exact kM5 ls _ _ (lv_sub hl [0, 1, 2, 3] rfl) hR hS
set_option maxRecDepth 20000 in
theorem B_X12_guess_22 {p : Program} {l : Launch} {e : Env} {s : State} {m : MethodId} {args : Array Value} {below : List Frame} {meth : Method} {c : Code} {O : XO} {K : XK} {r : Int32} {h' : XH}   (C : x_C p s m args meth c O cX12_guess 10 RX12 (some .int))   (ls : Array Slot) (H : Heap) (locs : List Loc) (h : XH) (v1 : Int32) (v2 : Int32) (v3 : Int32) (hl : lv_has ls 10 [(0, .ref (oX O + 64)), (1, .int v1), (2, .int v2), (3, .int v3)]) (hR : x_R O K h H) (hS : va_S (oA O) s.heap H locs) (hf : f_X12_guess_22 (oX O) h v1 v2 v3 = some (r, h')) : W p l e (x_rm 8 204) s m args below meth c H locs 0 0 (MQ below (x_Qc O K h' (some (.int r))) args s 0 0 (oA O)) (F0 m 22 ls [.ref (oX O + 64)]) := by
  have hx := C.1
  have hb := C.2.1
  rw [f_X12_guess_22] at hf
  refine lv_iconst (v := 1) hx hb dX12_guess_22 rfl ?_
  refine lv_goto (tgt := 27) hx hb dX12_guess_23 rfl ?_
  exact B_X12_guess_27  C   ls _ _ h _ _ _ _  (lv_sub hl [0, 1, 2, 3] rfl) hR hS hf
set_option maxRecDepth 20000 in
theorem S_X12_guess {l : Launch} {O : XO} {K : XK} {h : XH} {v1 : Int32} {v2 : Int32} {v3 : Int32}  {r : Int32} {h' : XH}  (hf : f_X12_guess (oX O) h v1 v2 v3 = some (r, h')) : x_M l O K yX12_guess cX12_guess 10 (some .int) 8 204 h [.ref (oX O + 64), .int v1, .int v2, .int v3] (some (.int r)) h' := by
  refine x_enter (by decide) (Nat.le_of_ble_eq_true rfl) (fun p e s m args below meth c C hR ls hl => ?_)
  have hS : va_S (oA O) s.heap s.heap [] := va_S.rf
  have hx := C.1
  have hb := C.2.1
  have hl : lv_has ls 10 [(0, .ref (oX O + 64)), (1, .int v1), (2, .int v2), (3, .int v3)] := hl
  rw [f_X12_guess] at hf
  refine lv_aload_n hx hb dX12_guess_0 rfl (lv_at hl 0 rfl) ?_
  refine lv_iconst (v := 0) hx hb dX12_guess_1 rfl ?_
  obtain ⟨h1, eh1, hf⟩ := x_lt hf
  refine pf_12_0 C hR hS (x_k hR 64 rfl) tw_1543 dX12_guess_2 (fun H locs hR hS => ?_)
  rw [← eh1] at hR
  refine lv_aload_n hx hb dX12_guess_5 rfl (lv_at hl 0 rfl) ?_
  refine lv_aload_n hx hb dX12_guess_6 rfl (lv_at hl 0 rfl) ?_
  refine lv_iload_n hx hb dX12_guess_7 rfl (lv_at hl 1 rfl) ?_
  obtain ⟨v_2, ev_2, hf⟩ := x_bd hf
  refine x_cVi1 C hR hS (S_X12_noRule  ev_2) (x_k hR 64 rfl) (by decide) rfl mf_X12_noRule tw_1979 (Nat.le_of_ble_eq_true rfl) (Nat.le_of_ble_eq_true rfl) hl.1 (Nat.le_of_ble_eq_true rfl) dX12_guess_8 ⟨Nat.le_refl _, Nat.le_refl _⟩ (fun H locs hR hS => ?_)
  refine lv_if_ne (tgt := 22) hx hb dX12_guess_11 rfl (fun hc => ?_) (fun hc => ?_)
  · have hf := x_in hc hf
    exact B_X12_guess_22  C   ls _ _ h1 _ _ _  (lv_sub hl [0, 1, 2, 3] rfl) hR hS hf
  · have hf := x_ip hc hf
    refine lv_aload_n hx hb dX12_guess_14 rfl (lv_at hl 0 rfl) ?_
    refine lv_iload_n hx hb dX12_guess_15 rfl (lv_at hl 2 rfl) ?_
    obtain ⟨v_23, ev_23, hf⟩ := x_bd hf
    refine x_cVi1 C hR hS (S_X12_noPack  ev_23) (x_k hR 64 rfl) (by decide) rfl mf_X12_noPack tw_1802 (Nat.le_of_ble_eq_true rfl) (Nat.le_of_ble_eq_true rfl) hl.1 (Nat.le_of_ble_eq_true rfl) dX12_guess_16 ⟨Nat.le_refl _, Nat.le_refl _⟩ (fun H locs hR hS => ?_)
    have kM24 : ∀ (ls : Array Slot) (H : Heap) (locs : List Loc), lv_has ls 10 [(0, .ref (oX O + 64)), (1, .int v1), (2, .int v2), (3, .int v3)] → x_R O K h1 H → va_S (oA O) s.heap H locs → W p l e (x_rm 8 204) s m args below meth c H locs 0 0 (MQ below (x_Qc O K h' (some (.int r))) args s 0 0 (oA O)) (F0 m 27 ls [.int (if v_23 = 0 then 0 else 1), .ref (oX O + 64)]) := by
      intro ls H locs hl hR hS
      refine lv_iconst (v := 1) hx hb dX12_guess_27 rfl ?_
      obtain ⟨q25, eq25, hf⟩ := x_bd hf
      refine x_cVi2 C hR hS (S_X12_throwsIf  eq25) (x_k hR 64 rfl) (by decide) rfl mf_X12_throwsIf tw_1741 (Nat.le_of_ble_eq_true rfl) (Nat.le_of_ble_eq_true rfl) hl.1 (Nat.le_of_ble_eq_true rfl) dX12_guess_28 ⟨Nat.le_refl _, Nat.le_refl _⟩ (fun H locs hR hS => ?_)
      refine lv_if_ne (tgt := 77) hx hb dX12_guess_31 rfl (fun hc => ?_) (fun hc => ?_)
      · have hf := x_in hc hf
        exact B_X12_guess_77  C   ls _ _ q25.2  (lv_sub hl [] rfl) hR hS hf
      · have hf := x_ip hc hf
        refine lv_aload_n hx hb dX12_guess_34 rfl (lv_at hl 0 rfl) ?_
        refine lv_aload_n hx hb dX12_guess_35 rfl (lv_at hl 0 rfl) ?_
        refine lv_iload_n hx hb dX12_guess_36 rfl (lv_at hl 2 rfl) ?_
        obtain ⟨v_26, ev_26, hf⟩ := x_bd hf
        refine x_cVi1 C hR hS (S_X12_isPut  ev_26) (x_k hR 64 rfl) (by decide) rfl mf_X12_isPut tw_1818 (Nat.le_of_ble_eq_true rfl) (Nat.le_of_ble_eq_true rfl) hl.1 (Nat.le_of_ble_eq_true rfl) dX12_guess_37 ⟨Nat.le_refl _, Nat.le_refl _⟩ (fun H locs hR hS => ?_)
        have kM27 : ∀ (ls : Array Slot) (H : Heap) (locs : List Loc), lv_has ls 10 [(0, .ref (oX O + 64)), (1, .int v1), (2, .int v2), (3, .int v3)] → x_R O K q25.2 H → va_S (oA O) s.heap H locs → W p l e (x_rm 8 204) s m args below meth c H locs 0 0 (MQ below (x_Qc O K h' (some (.int r))) args s 0 0 (oA O)) (F0 m 48 ls [.int (if v_26 = 0 then 1 else 0), .ref (oX O + 64)]) := by
          intro ls H locs hl hR hS
          refine lv_iconst (v := 2) hx hb dX12_guess_48 rfl ?_
          obtain ⟨q28, eq28, hf⟩ := x_bd hf
          refine x_cVi2 C hR hS (S_X12_throwsIf  eq28) (x_k hR 64 rfl) (by decide) rfl mf_X12_throwsIf tw_1741 (Nat.le_of_ble_eq_true rfl) (Nat.le_of_ble_eq_true rfl) hl.1 (Nat.le_of_ble_eq_true rfl) dX12_guess_49 ⟨Nat.le_refl _, Nat.le_refl _⟩ (fun H locs hR hS => ?_)
          refine lv_if_ne (tgt := 77) hx hb dX12_guess_52 rfl (fun hc => ?_) (fun hc => ?_)
          · have hf := x_in hc hf
            exact B_X12_guess_77  C   ls _ _ q28.2  (lv_sub hl [] rfl) hR hS hf
          · have hf := x_ip hc hf
            refine lv_aload_n hx hb dX12_guess_55 rfl (lv_at hl 0 rfl) ?_
            refine lv_iload_n hx hb dX12_guess_56 rfl (lv_at hl 3 rfl) ?_
            refine lv_iconst (v := 0) hx hb dX12_guess_57 rfl ?_
            refine lv_iconst (v := 2) hx hb dX12_guess_58 rfl ?_
            refine x_cSi3 C hR hS (S_X12_in  rfl) mf_X12_in tw_1756 (Nat.le_of_ble_eq_true rfl) (Nat.le_of_ble_eq_true rfl) hl.1 (Nat.le_of_ble_eq_true rfl) dX12_guess_59 ⟨Nat.le_refl _, Nat.le_refl _⟩ (fun H locs hR hS => ?_)
            have kM29 : ∀ (ls : Array Slot) (H : Heap) (locs : List Loc), lv_has ls 10 [(0, .ref (oX O + 64)), (1, .int v1), (2, .int v2), (3, .int v3)] → x_R O K q28.2 H → va_S (oA O) s.heap H locs → W p l e (x_rm 8 204) s m args below meth c H locs 0 0 (MQ below (x_Qc O K h' (some (.int r))) args s 0 0 (oA O)) (F0 m 70 ls [.int (if (f_X12_in q28.2 v3 0 2) = 0 then 1 else 0), .ref (oX O + 64)]) := by
              intro ls H locs hl hR hS
              refine lv_iconst (v := 3) hx hb dX12_guess_70 rfl ?_
              obtain ⟨q30, eq30, hf⟩ := x_bd hf
              refine x_cVi2 C hR hS (S_X12_throwsIf  eq30) (x_k hR 64 rfl) (by decide) rfl mf_X12_throwsIf tw_1741 (Nat.le_of_ble_eq_true rfl) (Nat.le_of_ble_eq_true rfl) hl.1 (Nat.le_of_ble_eq_true rfl) dX12_guess_71 ⟨Nat.le_refl _, Nat.le_refl _⟩ (fun H locs hR hS => ?_)
              refine lv_if_eq (tgt := 79) hx hb dX12_guess_74 rfl (fun hc => ?_) (fun hc => ?_)
              · have hf := x_ip hc hf
                refine lv_bipush (v := 6) hx hb dX12_guess_79 rfl ?_
                refine lv_aload_n hx hb dX12_guess_81 rfl (lv_at hl 0 rfl) ?_
                refine lv_iload_n hx hb dX12_guess_82 rfl (lv_at hl 2 rfl) ?_
                obtain ⟨v_31, ev_31, hf⟩ := x_bd hf
                refine x_cVi1 C hR hS (S_X12_lackMany  ev_31) (x_k hR 64 rfl) (by decide) rfl mf_X12_lackMany tw_1995 (Nat.le_of_ble_eq_true rfl) (Nat.le_of_ble_eq_true rfl) hl.1 (Nat.le_of_ble_eq_true rfl) dX12_guess_83 ⟨Nat.le_refl _, Nat.le_refl _⟩ (fun H locs hR hS => ?_)
                refine x_cSi2 C hR hS (S_J9_min_7cf53  rfl) mf_J9_min_7cf53 tw_1901 (Nat.le_of_ble_eq_true rfl) (Nat.le_of_ble_eq_true rfl) hl.1 (Nat.le_of_ble_eq_true rfl) dX12_guess_86 ⟨Nat.le_refl _, Nat.le_refl _⟩ (fun H locs hR hS => ?_)
                obtain ⟨t32, et32, hf⟩ := x_lt hf
                refine x_nmi et32 ?_
                refine lv_istore (lv' := [(4, _), (0, _), (1, _), (2, _), (3, _)]) hx hb dX12_guess_89 hl (Nat.le_of_ble_eq_true rfl) rfl (fun ls hl => ?_)
                refine lv_iconst (v := 0) hx hb dX12_guess_91 rfl ?_
                refine lv_istore (lv' := [(5, _), (4, _), (0, _), (1, _), (2, _), (3, _)]) hx hb dX12_guess_92 hl (Nat.le_of_ble_eq_true rfl) rfl (fun ls hl => ?_)
                exact B_X12_guess_94  C  x_FU ls _ _ q30.2 _ _ _ _ _  (lv_sub hl [2, 3, 4, 5, 1, 0] rfl) hR hS hf
              · have hf := x_in hc hf
                exact B_X12_guess_77  C   ls _ _ q30.2  (lv_sub hl [] rfl) hR hS hf
            refine lv_if_ne (tgt := 69) hx hb dX12_guess_62 rfl (fun hc => ?_) (fun hc => ?_)
            · try simp only [if_neg hc] at kM29
              refine lv_iconst (v := 0) hx hb dX12_guess_69 rfl ?_
              exact kM29 ls _ _ (lv_sub hl [0, 1, 2, 3] rfl) hR hS
            · try simp only [if_pos hc] at kM29
              refine lv_iconst (v := 1) hx hb dX12_guess_65 rfl ?_
              refine lv_goto (tgt := 70) hx hb dX12_guess_66 rfl ?_
              exact kM29 ls _ _ (lv_sub hl [0, 1, 2, 3] rfl) hR hS
        refine lv_if_ne (tgt := 47) hx hb dX12_guess_40 rfl (fun hc => ?_) (fun hc => ?_)
        · try simp only [if_neg hc] at kM27
          refine lv_iconst (v := 0) hx hb dX12_guess_47 rfl ?_
          exact kM27 ls _ _ (lv_sub hl [0, 1, 2, 3] rfl) hR hS
        · try simp only [if_pos hc] at kM27
          refine lv_iconst (v := 1) hx hb dX12_guess_43 rfl ?_
          refine lv_goto (tgt := 48) hx hb dX12_guess_44 rfl ?_
          exact kM27 ls _ _ (lv_sub hl [0, 1, 2, 3] rfl) hR hS
    refine lv_if_eq (tgt := 26) hx hb dX12_guess_19 rfl (fun hc => ?_) (fun hc => ?_)
    · try simp only [if_pos hc] at kM24
      refine lv_iconst (v := 0) hx hb dX12_guess_26 rfl ?_
      exact kM24 ls _ _ (lv_sub hl [0, 1, 2, 3] rfl) hR hS
    · try simp only [if_neg hc] at kM24
      refine lv_iconst (v := 1) hx hb dX12_guess_22 rfl ?_
      refine lv_goto (tgt := 27) hx hb dX12_guess_23 rfl ?_
      exact kM24 ls _ _ (lv_sub hl [0, 1, 2, 3] rfl) hR hS
def f_X12_awaitedBy_76 (k29 : XH → Int32 → Int32 → Int32 → Int32 → Int32 → Int32 → Int32 → Option (Int32 × XH)) (x : Nat) (h : XH) (v1 : Int32) (v2 : Int32) (v3 : Int32) (v4 : Int32) (v5 : Int32) (v6 : Int32) (v7 : Int32) (s1 : Int32) (s2 : Int32) (s3 : Int32) : Option (Int32 × XH) := Option.bind (f_X12_of x h v2 8) (fun v_3 => Option.bind (f_X12_asks x h s1 s2 s3 (v_3 + (f_J6_bitCount_0f7a4 h v3))) (fun h4 => Option.bind (f_X12_held x h4 v1) (fun q5 => k29 q5.2 v1 v2 v3 v4 (v5 + q5.1) v6 (v7 + 1))))
def f_X12_awaitedBy_29 (x : Nat) : Nat → XH → Int32 → Int32 → Int32 → Int32 → Int32 → Int32 → Int32 → Option (Int32 × XH)
  | 0, _, _, _, _, _, _, _, _ => none
  | n + 1, h, v1, v2, v3, v4, v5, v6, v7 => Option.bind (f_X12_of x h v2 2) (fun v_2 => if v_2 ≤ v7 then some (v5, h) else if v3 = 0 then if x_b 6 6927 = true then Option.bind (f_X12_ageOf x h v2 v7 ((h.1 (x + 65) (6 : Int32).toNatClampNeg) + v4)) (fun v_7 => f_X12_awaitedBy_76 (f_X12_awaitedBy_29 x n) x h v1 v2 v3 v4 v5 v6 v7 v2 v7 v_7) else none else f_X12_awaitedBy_76 (f_X12_awaitedBy_29 x n) x h v1 v2 v3 v4 v5 v6 v7 v2 v7 ((v4 - v6) / 10))
def f_X12_awaitedBy_24 (x : Nat) (h : XH) (v1 : Int32) (v2 : Int32) (v3 : Int32) (v4 : Int32) (v5 : Int32) (s0 : Int32) : Option (Int32 × XH) := f_X12_awaitedBy_29 x x_FU h v1 v2 v3 v4 v5 s0 0
def f_X12_awaitedBy (x : Nat) (h : XH) (v1 : Int32) (v2 : Int32) (v3 : Int32) (v4 : Int32) : Option (Int32 × XH) := if v3 = 0 then f_X12_awaitedBy_24 x h v1 v2 v3 v4 0 0 else if x_b (969 - (f_J6_numberOfLeadingZeros_0f7a4 h v3)) 6927 = true then f_X12_awaitedBy_24 x h v1 v2 v3 v4 0 (h.1 (x + 65) (969 - (f_J6_numberOfLeadingZeros_0f7a4 h v3)).toNatClampNeg) else none
set_option maxRecDepth 20000 in
theorem B_X12_awaitedBy_76 {p : Program} {l : Launch} {e : Env} {s : State} {m : MethodId} {args : Array Value} {below : List Frame} {meth : Method} {c : Code} {O : XO} {K : XK} {r : Int32} {h' : XH}  {k29 : XH → Int32 → Int32 → Int32 → Int32 → Int32 → Int32 → Int32 → Option (Int32 × XH)} (C : x_C p s m args meth c O cX12_awaitedBy 8 RX12 (some .int)) (hk29 : ∀ (ls : Array Slot) (H : Heap) (locs : List Loc) (h : XH) (v1 : Int32) (v2 : Int32) (v3 : Int32) (v4 : Int32) (v5 : Int32) (v6 : Int32) (v7 : Int32), lv_has ls 8 [(0, .ref (oX O + 64)), (1, .int v1), (2, .int v2), (3, .int v3), (4, .int v4), (5, .int v5), (6, .int v6), (7, .int v7)] → x_R O K h H → va_S (oA O) s.heap H locs → k29 h v1 v2 v3 v4 v5 v6 v7 = some (r, h') → W p l e (x_rm 6 148) s m args below meth c H locs 0 0 (MQ below (x_Qc O K h' (some (.int r))) args s 0 0 (oA O)) (F0 m 29 ls []))  (ls : Array Slot) (H : Heap) (locs : List Loc) (h : XH) (v1 : Int32) (v2 : Int32) (v3 : Int32) (v4 : Int32) (v5 : Int32) (v6 : Int32) (v7 : Int32) (s1 : Int32) (s2 : Int32) (s3 : Int32) (hl : lv_has ls 8 [(0, .ref (oX O + 64)), (1, .int v1), (2, .int v2), (3, .int v3), (4, .int v4), (5, .int v5), (6, .int v6), (7, .int v7)]) (hR : x_R O K h H) (hS : va_S (oA O) s.heap H locs) (hf : f_X12_awaitedBy_76 k29 (oX O) h v1 v2 v3 v4 v5 v6 v7 s1 s2 s3 = some (r, h')) : W p l e (x_rm 6 148) s m args below meth c H locs 0 0 (MQ below (x_Qc O K h' (some (.int r))) args s 0 0 (oA O)) (F0 m 76 ls [.int s3, .int s2, .int s1, .ref (oX O + 64)]) := by
  have hx := C.1
  have hb := C.2.1
  rw [f_X12_awaitedBy_76] at hf
  refine lv_aload_n hx hb dX12_awaitedBy_76 rfl (lv_at hl 0 rfl) ?_
  refine lv_iload_n hx hb dX12_awaitedBy_77 rfl (lv_at hl 2 rfl) ?_
  refine lv_bipush (v := 8) hx hb dX12_awaitedBy_78 rfl ?_
  obtain ⟨v_3, ev_3, hf⟩ := x_bd hf
  refine x_cVi2 C hR hS (S_X12_of  ev_3) (x_k hR 64 rfl) (by decide) rfl mf_X12_of tw_1806 (Nat.le_of_ble_eq_true rfl) (Nat.le_of_ble_eq_true rfl) hl.1 (Nat.le_of_ble_eq_true rfl) dX12_awaitedBy_80 ⟨Nat.le_refl _, Nat.le_refl _⟩ (fun H locs hR hS => ?_)
  refine lv_iload_n hx hb dX12_awaitedBy_83 rfl (lv_at hl 3 rfl) ?_
  refine x_cSi1 C hR hS (S_J6_bitCount_0f7a4  rfl) mf_J6_bitCount_0f7a4 tw_2036 (Nat.le_of_ble_eq_true rfl) (Nat.le_of_ble_eq_true rfl) hl.1 (Nat.le_of_ble_eq_true rfl) dX12_awaitedBy_84 ⟨Nat.le_refl _, Nat.le_refl _⟩ (fun H locs hR hS => ?_)
  refine lv_iadd hx hb dX12_awaitedBy_87 ?_
  obtain ⟨h4, eh4, hf⟩ := x_bd hf
  refine x_cVv4 C hR hS (S_X12_asks  eh4) (x_k hR 64 rfl) (by decide) rfl mf_X12_asks tw_1853 (Nat.le_of_ble_eq_true rfl) (Nat.le_of_ble_eq_true rfl) hl.1 (Nat.le_of_ble_eq_true rfl) dX12_awaitedBy_88 ⟨Nat.le_refl _, Nat.le_refl _⟩ (fun H locs hR hS => ?_)
  refine lv_iload hx hb dX12_awaitedBy_91 (lv_at hl 5 rfl) ?_
  refine lv_aload_n hx hb dX12_awaitedBy_93 rfl (lv_at hl 0 rfl) ?_
  refine lv_iload_n hx hb dX12_awaitedBy_94 rfl (lv_at hl 1 rfl) ?_
  obtain ⟨q5, eq5, hf⟩ := x_bd hf
  refine x_cVi1 C hR hS (S_X12_held  eq5) (x_k hR 64 rfl) (by decide) rfl mf_X12_held tw_1889 (Nat.le_of_ble_eq_true rfl) (Nat.le_of_ble_eq_true rfl) hl.1 (Nat.le_of_ble_eq_true rfl) dX12_awaitedBy_95 ⟨Nat.le_refl _, Nat.le_refl _⟩ (fun H locs hR hS => ?_)
  refine lv_iadd hx hb dX12_awaitedBy_98 ?_
  refine lv_istore (lv' := [(5, _), (0, _), (1, _), (2, _), (3, _), (4, _), (6, _), (7, _)]) hx hb dX12_awaitedBy_99 hl (Nat.le_of_ble_eq_true rfl) rfl (fun ls hl => ?_)
  refine lv_iinc (k := 7) (v := _ + 1) (lv' := [(7, _), (5, _), (0, _), (1, _), (2, _), (3, _), (4, _), (6, _)]) hx hb dX12_awaitedBy_101 hl rfl (x_inc 1 1 rfl _) (Nat.le_of_ble_eq_true rfl) rfl (fun ls hl => ?_)
  refine lv_goto (tgt := 29) hx hb dX12_awaitedBy_104 rfl ?_
  exact hk29 ls _ _ q5.2 _ _ _ _ _ _ _  (lv_sub hl [2, 3, 4, 5, 6, 1, 7, 0] rfl) hR hS hf
set_option maxRecDepth 20000 in
theorem B_X12_awaitedBy_29 {p : Program} {l : Launch} {e : Env} {s : State} {m : MethodId} {args : Array Value} {below : List Frame} {meth : Method} {c : Code} {O : XO} {K : XK} {r : Int32} {h' : XH}   (C : x_C p s m args meth c O cX12_awaitedBy 8 RX12 (some .int))   : ∀ (n : Nat) (ls : Array Slot) (H : Heap) (locs : List Loc) (h : XH) (v1 : Int32) (v2 : Int32) (v3 : Int32) (v4 : Int32) (v5 : Int32) (v6 : Int32) (v7 : Int32) (hl : lv_has ls 8 [(0, .ref (oX O + 64)), (1, .int v1), (2, .int v2), (3, .int v3), (4, .int v4), (5, .int v5), (6, .int v6), (7, .int v7)]) (hR : x_R O K h H) (hS : va_S (oA O) s.heap H locs) (hf : f_X12_awaitedBy_29 (oX O) n h v1 v2 v3 v4 v5 v6 v7 = some (r, h')), W p l e (x_rm 6 148) s m args below meth c H locs 0 0 (MQ below (x_Qc O K h' (some (.int r))) args s 0 0 (oA O)) (F0 m 29 ls []) := by
  have hx := C.1
  have hb := C.2.1
  intro n
  induction n with
  | zero =>
    intro ls H locs h v1 v2 v3 v4 v5 v6 v7 hl hR hS hf
    rw [f_X12_awaitedBy_29] at hf
    cases hf
  | succ n ih =>
    intro ls H locs h v1 v2 v3 v4 v5 v6 v7 hl hR hS hf
    rw [f_X12_awaitedBy_29] at hf
    refine lv_iload hx hb dX12_awaitedBy_29 (lv_at hl 7 rfl) ?_
    refine lv_aload_n hx hb dX12_awaitedBy_31 rfl (lv_at hl 0 rfl) ?_
    refine lv_iload_n hx hb dX12_awaitedBy_32 rfl (lv_at hl 2 rfl) ?_
    refine lv_iconst (v := 2) hx hb dX12_awaitedBy_33 rfl ?_
    obtain ⟨v_2, ev_2, hf⟩ := x_bd hf
    refine x_cVi2 C hR hS (S_X12_of  ev_2) (x_k hR 64 rfl) (by decide) rfl mf_X12_of tw_1806 (Nat.le_of_ble_eq_true rfl) (Nat.le_of_ble_eq_true rfl) hl.1 (Nat.le_of_ble_eq_true rfl) dX12_awaitedBy_34 ⟨Nat.le_refl _, Nat.le_refl _⟩ (fun H locs hR hS => ?_)
    refine lv_icmp_ge (tgt := 107) hx hb dX12_awaitedBy_37 rfl (fun hc => ?_) (fun hc => ?_)
    · have hf := x_ip hc hf
      refine lv_iload hx hb dX12_awaitedBy_107 (lv_at hl 5 rfl) ?_
      cases hf
      exact x_iret C hR hS dX12_awaitedBy_109
    · have hf := x_in hc hf
      refine lv_aload_n hx hb dX12_awaitedBy_40 rfl (lv_at hl 0 rfl) ?_
      refine lv_iload_n hx hb dX12_awaitedBy_41 rfl (lv_at hl 2 rfl) ?_
      refine lv_iload hx hb dX12_awaitedBy_42 (lv_at hl 7 rfl) ?_
      refine lv_iload_n hx hb dX12_awaitedBy_44 rfl (lv_at hl 3 rfl) ?_
      refine lv_if_ne (tgt := 68) hx hb dX12_awaitedBy_45 rfl (fun hc => ?_) (fun hc => ?_)
      · have hf := x_in hc hf
        refine lv_iload hx hb dX12_awaitedBy_68 (lv_at hl 4 rfl) ?_
        refine lv_iload hx hb dX12_awaitedBy_70 (lv_at hl 6 rfl) ?_
        refine lv_isub hx hb dX12_awaitedBy_72 ?_
        refine lv_bipush (v := 10) hx hb dX12_awaitedBy_73 rfl ?_
        refine lv_idiv hx hb dX12_awaitedBy_75 (by decide) ?_
        exact B_X12_awaitedBy_76  C ih  ls _ _ h _ _ _ _ _ _ _ _ _ _  (lv_sub hl [0, 1, 2, 3, 4, 5, 6, 7] rfl) hR hS hf
      · have hf := x_ip hc hf
        refine lv_aload_n hx hb dX12_awaitedBy_48 rfl (lv_at hl 0 rfl) ?_
        refine lv_iload_n hx hb dX12_awaitedBy_49 rfl (lv_at hl 2 rfl) ?_
        refine lv_iload hx hb dX12_awaitedBy_50 (lv_at hl 7 rfl) ?_
        refine lv_aload_n hx hb dX12_awaitedBy_52 rfl (lv_at hl 0 rfl) ?_
        refine gf_12_1 C hR (x_k hR 64 rfl) tw_1544 dX12_awaitedBy_53 ?_
        refine lv_bipush (v := 6) hx hb dX12_awaitedBy_56 rfl ?_
        obtain ⟨g6, hf⟩ := x_gd hf
        refine x_iald C hR (x_k1 (x_k hR 65 rfl)) (x_k2 (x_k hR 65 rfl) g6) dX12_awaitedBy_58 ?_
        refine lv_iload hx hb dX12_awaitedBy_59 (lv_at hl 4 rfl) ?_
        refine lv_iadd hx hb dX12_awaitedBy_61 ?_
        obtain ⟨v_7, ev_7, hf⟩ := x_bd hf
        refine x_cVi3 C hR hS (S_X12_ageOf  ev_7) (x_k hR 64 rfl) (by decide) rfl mf_X12_ageOf tw_1849 (Nat.le_of_ble_eq_true rfl) (Nat.le_of_ble_eq_true rfl) hl.1 (Nat.le_of_ble_eq_true rfl) dX12_awaitedBy_62 ⟨Nat.le_refl _, Nat.le_refl _⟩ (fun H locs hR hS => ?_)
        refine lv_goto (tgt := 76) hx hb dX12_awaitedBy_65 rfl ?_
        exact B_X12_awaitedBy_76  C ih  ls _ _ h _ _ _ _ _ _ _ _ _ _  (lv_sub hl [0, 1, 2, 3, 4, 5, 6, 7] rfl) hR hS hf
set_option maxRecDepth 20000 in
theorem B_X12_awaitedBy_24 {p : Program} {l : Launch} {e : Env} {s : State} {m : MethodId} {args : Array Value} {below : List Frame} {meth : Method} {c : Code} {O : XO} {K : XK} {r : Int32} {h' : XH}   (C : x_C p s m args meth c O cX12_awaitedBy 8 RX12 (some .int))   (ls : Array Slot) (H : Heap) (locs : List Loc) (h : XH) (v1 : Int32) (v2 : Int32) (v3 : Int32) (v4 : Int32) (v5 : Int32) (s0 : Int32) (hl : lv_has ls 8 [(0, .ref (oX O + 64)), (1, .int v1), (2, .int v2), (3, .int v3), (4, .int v4), (5, .int v5)]) (hR : x_R O K h H) (hS : va_S (oA O) s.heap H locs) (hf : f_X12_awaitedBy_24 (oX O) h v1 v2 v3 v4 v5 s0 = some (r, h')) : W p l e (x_rm 6 148) s m args below meth c H locs 0 0 (MQ below (x_Qc O K h' (some (.int r))) args s 0 0 (oA O)) (F0 m 24 ls [.int s0]) := by
  have hx := C.1
  have hb := C.2.1
  rw [f_X12_awaitedBy_24] at hf
  refine lv_istore (lv' := [(6, _), (0, _), (1, _), (2, _), (3, _), (4, _), (5, _)]) hx hb dX12_awaitedBy_24 hl (Nat.le_of_ble_eq_true rfl) rfl (fun ls hl => ?_)
  refine lv_iconst (v := 0) hx hb dX12_awaitedBy_26 rfl ?_
  refine lv_istore (lv' := [(7, _), (6, _), (0, _), (1, _), (2, _), (3, _), (4, _), (5, _)]) hx hb dX12_awaitedBy_27 hl (Nat.le_of_ble_eq_true rfl) rfl (fun ls hl => ?_)
  exact B_X12_awaitedBy_29  C  x_FU ls _ _ h _ _ _ _ _ _ _  (lv_sub hl [2, 3, 4, 5, 6, 7, 1, 0] rfl) hR hS hf
set_option maxRecDepth 20000 in
theorem S_X12_awaitedBy {l : Launch} {O : XO} {K : XK} {h : XH} {v1 : Int32} {v2 : Int32} {v3 : Int32} {v4 : Int32}  {r : Int32} {h' : XH}  (hf : f_X12_awaitedBy (oX O) h v1 v2 v3 v4 = some (r, h')) : x_M l O K yX12_awaitedBy cX12_awaitedBy 8 (some .int) 6 148 h [.ref (oX O + 64), .int v1, .int v2, .int v3, .int v4] (some (.int r)) h' := by
  refine x_enter (by decide) (Nat.le_of_ble_eq_true rfl) (fun p e s m args below meth c C hR ls hl => ?_)
  have hS : va_S (oA O) s.heap s.heap [] := va_S.rf
  have hx := C.1
  have hb := C.2.1
  have hl : lv_has ls 8 [(0, .ref (oX O + 64)), (1, .int v1), (2, .int v2), (3, .int v3), (4, .int v4)] := hl
  rw [f_X12_awaitedBy] at hf
  refine lv_iconst (v := 0) hx hb dX12_awaitedBy_0 rfl ?_
  refine lv_istore (lv' := [(5, _), (0, _), (1, _), (2, _), (3, _), (4, _)]) hx hb dX12_awaitedBy_1 hl (Nat.le_of_ble_eq_true rfl) rfl (fun ls hl => ?_)
  refine lv_iload_n hx hb dX12_awaitedBy_3 rfl (lv_at hl 4 rfl) ?_
  refine lv_if_ne (tgt := 11) hx hb dX12_awaitedBy_4 rfl (fun hc => ?_) (fun hc => ?_)
  · have hf := x_in hc hf
    refine lv_aload_n hx hb dX12_awaitedBy_11 rfl (lv_at hl 1 rfl) ?_
    refine gf_12_1 C hR (x_k hR 64 rfl) tw_1544 dX12_awaitedBy_12 ?_
    refine lv_sipush (v := 969) hx hb dX12_awaitedBy_15 rfl ?_
    refine lv_iload_n hx hb dX12_awaitedBy_18 rfl (lv_at hl 4 rfl) ?_
    refine x_cSi1 C hR hS (S_J6_numberOfLeadingZeros_0f7a4  rfl) mf_J6_numberOfLeadingZeros_0f7a4 tw_2032 (Nat.le_of_ble_eq_true rfl) (Nat.le_of_ble_eq_true rfl) hl.1 (Nat.le_of_ble_eq_true rfl) dX12_awaitedBy_19 ⟨Nat.le_refl _, Nat.le_refl _⟩ (fun H locs hR hS => ?_)
    refine lv_isub hx hb dX12_awaitedBy_22 ?_
    obtain ⟨g1, hf⟩ := x_gd hf
    refine x_iald C hR (x_k1 (x_k hR 65 rfl)) (x_k2 (x_k hR 65 rfl) g1) dX12_awaitedBy_23 ?_
    exact B_X12_awaitedBy_24  C   ls _ _ h _ _ _ _ _ _  (lv_sub hl [1, 2, 3, 4, 5, 0] rfl) hR hS hf
  · have hf := x_ip hc hf
    refine lv_iconst (v := 0) hx hb dX12_awaitedBy_7 rfl ?_
    refine lv_goto (tgt := 24) hx hb dX12_awaitedBy_8 rfl ?_
    exact B_X12_awaitedBy_24  C   ls _ _ h _ _ _ _ _ _  (lv_sub hl [1, 2, 3, 4, 5, 0] rfl) hR hS hf
def f_X12_again_55 (x : Nat) (h : XH) : Option (Int32 × XH) := some (0, h)
def f_X12_again_211 (k140 : XH → Int32 → Int32 → Int32 → Int32 → Int32 → Int32 → Int32 → Int32 → Int32 → Int32 → Option (Int32 × XH)) (x : Nat) (h : XH) (v1 : Int32) (v2 : Int32) (v3 : Int32) (v4 : Int32) (v5 : Int32) (v6 : Int32) (v7 : Int32) (v8 : Int32) (v9 : Int32) (v10 : Int32) : Option (Int32 × XH) := k140 h v1 v2 v3 v4 v5 v6 v7 v8 v9 (v10 + 1)
def f_X12_again_140 (x : Nat) : Nat → XH → Int32 → Int32 → Int32 → Int32 → Int32 → Int32 → Int32 → Int32 → Int32 → Int32 → Option (Int32 × XH)
  | 0, _, _, _, _, _, _, _, _, _, _, _ => none
  | n + 1, h, v1, v2, v3, v4, v5, v6, v7, v8, v9, v10 => if (x_shl 1 v6) ≤ v10 then some ((if v5 = 0 then v7 else (v8 - v9)), h) else if (f_J6_bitCount_0f7a4 h v10) ≤ v3 then Option.bind (f_X12_awaitedBy x h v1 v2 v10 v4) (fun q12 => f_X12_again_211 (f_X12_again_140 x n) x q12.2 v1 v2 v3 v4 v5 v6 (if q12.1 < v8 then v7 else (if q12.1 = v8 then (if (f_J6_bitCount_0f7a4 q12.2 v10) < (f_J6_bitCount_0f7a4 q12.2 v7) then v10 else v7) else v10)) (if q12.1 < v8 then v8 else (if q12.1 = v8 then (if (f_J6_bitCount_0f7a4 q12.2 v10) < (f_J6_bitCount_0f7a4 q12.2 v7) then q12.1 else v8) else q12.1)) v9 v10) else f_X12_again_211 (f_X12_again_140 x n) x h v1 v2 v3 v4 v5 v6 v7 v8 v9 v10
def f_X12_again_110 (x : Nat) (h : XH) (v1 : Int32) (v2 : Int32) (v3 : Int32) (v4 : Int32) (v5 : Int32) (v6 : Int32) (s1 : Int32) : Option (Int32 × XH) := Option.bind (f_X12_throwsIf x h s1 3) (fun q9 => if q9.1 = 0 then Option.bind (f_X12_awaitedBy x q9.2 v1 v2 0 v4) (fun q10 => f_X12_again_140 x x_FU q10.2 v1 v2 v3 v4 v5 v6 0 q10.1 q10.1 1) else some (0, q9.2))
def f_X12_again_105 (x : Nat) (h : XH) (v1 : Int32) (v2 : Int32) (v3 : Int32) (v4 : Int32) (v5 : Int32) (v6 : Int32) : Option (Int32 × XH) := f_X12_again_110 x h v1 v2 v3 v4 v5 v6 1
def f_X12_again_94 (x : Nat) (h : XH) (v1 : Int32) (v2 : Int32) (v3 : Int32) (v4 : Int32) (v5 : Int32) (v6 : Int32) (s1 : Int32) (s2 : Int32) : Option (Int32 × XH) := Option.bind (f_X12_throwsIf x h (if s1 < s2 then 1 else (if v4 ≤ 99999 then 0 else 1)) 3) (fun q16 => if q16.1 = 0 then Option.bind (f_X12_awaitedBy x q16.2 v1 v2 0 v4) (fun q17 => f_X12_again_140 x x_FU q17.2 v1 v2 v3 v4 v5 v6 0 q17.1 q17.1 1) else some (0, q16.2))
def f_X12_again_27 (x : Nat) (h : XH) (v1 : Int32) (v2 : Int32) (v3 : Int32) (v4 : Int32) (v5 : Int32) (s1 : Int32) : Option (Int32 × XH) := Option.bind (f_X12_throwsIf x h s1 1) (fun q3 => if q3.1 = 0 then Option.bind (f_X12_isPut x q3.2 v2) (fun v_4 => Option.bind (f_X12_throwsIf x q3.2 (if v_4 = 0 then 1 else 0) 2) (fun q6 => if q6.1 = 0 then if x_b 4 6927 = true then x_let ((q6.2.1 (x + 65) (4 : Int32).toNatClampNeg) : Int32) (fun t8 => if v3 < 0 then f_X12_again_105 x q6.2 v1 v2 v3 v4 v5 t8 else if t8 = 0 then f_X12_again_94 x q6.2 v1 v2 v3 v4 v5 t8 v4 0 else if x_b ((938 + t8) - 1) 6927 = true then f_X12_again_94 x q6.2 v1 v2 v3 v4 v5 t8 v4 (q6.2.1 (x + 65) ((938 + t8) - 1).toNatClampNeg) else none) else none else f_X12_again_55 x q6.2)) else f_X12_again_55 x q3.2)
def f_X12_again_22 (x : Nat) (h : XH) (v1 : Int32) (v2 : Int32) (v3 : Int32) (v4 : Int32) (v5 : Int32) : Option (Int32 × XH) := f_X12_again_27 x h v1 v2 v3 v4 v5 1
def f_X12_again (x : Nat) (h : XH) (v1 : Int32) (v2 : Int32) (v3 : Int32) (v4 : Int32) (v5 : Int32) : Option (Int32 × XH) := x_let (x_i h (x + 64) 0 0) (fun h1 => Option.bind (f_X12_noLaw x h1 v1) (fun v_2 => if v_2 = 0 then Option.bind (f_X12_noPack x h1 v2) (fun v_18 => Option.bind (f_X12_throwsIf x h1 (if v_18 = 0 then 0 else 1) 1) (fun q20 => if q20.1 = 0 then Option.bind (f_X12_isPut x q20.2 v2) (fun v_21 => Option.bind (f_X12_throwsIf x q20.2 (if v_21 = 0 then 1 else 0) 2) (fun q23 => if q23.1 = 0 then if x_b 4 6927 = true then x_let ((q23.2.1 (x + 65) (4 : Int32).toNatClampNeg) : Int32) (fun t25 => if v3 < 0 then f_X12_again_105 x q23.2 v1 v2 v3 v4 v5 t25 else if t25 = 0 then f_X12_again_94 x q23.2 v1 v2 v3 v4 v5 t25 v4 0 else if x_b ((938 + t25) - 1) 6927 = true then f_X12_again_94 x q23.2 v1 v2 v3 v4 v5 t25 v4 (q23.2.1 (x + 65) ((938 + t25) - 1).toNatClampNeg) else none) else none else f_X12_again_55 x q23.2)) else f_X12_again_55 x q20.2)) else f_X12_again_22 x h1 v1 v2 v3 v4 v5))
set_option maxRecDepth 20000 in
theorem B_X12_again_55 {p : Program} {l : Launch} {e : Env} {s : State} {m : MethodId} {args : Array Value} {below : List Frame} {meth : Method} {c : Code} {O : XO} {K : XK} {r : Int32} {h' : XH}   (C : x_C p s m args meth c O cX12_again 12 RX12 (some .int))   (ls : Array Slot) (H : Heap) (locs : List Loc) (h : XH) (hl : lv_has ls 12 []) (hR : x_R O K h H) (hS : va_S (oA O) s.heap H locs) (hf : f_X12_again_55 (oX O) h = some (r, h')) : W p l e (x_rm 7 175) s m args below meth c H locs 0 0 (MQ below (x_Qc O K h' (some (.int r))) args s 0 0 (oA O)) (F0 m 55 ls []) := by
  have hx := C.1
  have hb := C.2.1
  rw [f_X12_again_55] at hf
  refine lv_iconst (v := 0) hx hb dX12_again_55 rfl ?_
  cases hf
  exact x_iret C hR hS dX12_again_56
set_option maxRecDepth 20000 in
theorem B_X12_again_211 {p : Program} {l : Launch} {e : Env} {s : State} {m : MethodId} {args : Array Value} {below : List Frame} {meth : Method} {c : Code} {O : XO} {K : XK} {r : Int32} {h' : XH}  {k140 : XH → Int32 → Int32 → Int32 → Int32 → Int32 → Int32 → Int32 → Int32 → Int32 → Int32 → Option (Int32 × XH)} (C : x_C p s m args meth c O cX12_again 12 RX12 (some .int)) (hk140 : ∀ (ls : Array Slot) (H : Heap) (locs : List Loc) (h : XH) (v1 : Int32) (v2 : Int32) (v3 : Int32) (v4 : Int32) (v5 : Int32) (v6 : Int32) (v7 : Int32) (v8 : Int32) (v9 : Int32) (v10 : Int32), lv_has ls 12 [(0, .ref (oX O + 64)), (1, .int v1), (2, .int v2), (3, .int v3), (4, .int v4), (5, .int v5), (6, .int v6), (7, .int v7), (8, .int v8), (9, .int v9), (10, .int v10)] → x_R O K h H → va_S (oA O) s.heap H locs → k140 h v1 v2 v3 v4 v5 v6 v7 v8 v9 v10 = some (r, h') → W p l e (x_rm 7 175) s m args below meth c H locs 0 0 (MQ below (x_Qc O K h' (some (.int r))) args s 0 0 (oA O)) (F0 m 140 ls []))  (ls : Array Slot) (H : Heap) (locs : List Loc) (h : XH) (v1 : Int32) (v2 : Int32) (v3 : Int32) (v4 : Int32) (v5 : Int32) (v6 : Int32) (v7 : Int32) (v8 : Int32) (v9 : Int32) (v10 : Int32) (hl : lv_has ls 12 [(0, .ref (oX O + 64)), (1, .int v1), (2, .int v2), (3, .int v3), (4, .int v4), (5, .int v5), (6, .int v6), (7, .int v7), (8, .int v8), (9, .int v9), (10, .int v10)]) (hR : x_R O K h H) (hS : va_S (oA O) s.heap H locs) (hf : f_X12_again_211 k140 (oX O) h v1 v2 v3 v4 v5 v6 v7 v8 v9 v10 = some (r, h')) : W p l e (x_rm 7 175) s m args below meth c H locs 0 0 (MQ below (x_Qc O K h' (some (.int r))) args s 0 0 (oA O)) (F0 m 211 ls []) := by
  have hx := C.1
  have hb := C.2.1
  rw [f_X12_again_211] at hf
  refine lv_iinc (k := 10) (v := _ + 1) (lv' := [(10, _), (0, _), (1, _), (2, _), (3, _), (4, _), (5, _), (6, _), (7, _), (8, _), (9, _)]) hx hb dX12_again_211 hl rfl (x_inc 1 1 rfl _) (Nat.le_of_ble_eq_true rfl) rfl (fun ls hl => ?_)
  refine lv_goto (tgt := 140) hx hb dX12_again_214 rfl ?_
  exact hk140 ls _ _ h _ _ _ _ _ _ _ _ _ _  (lv_sub hl [1, 2, 3, 4, 5, 6, 7, 8, 9, 10, 0] rfl) hR hS hf
set_option maxRecDepth 20000 in
theorem B_X12_again_140 {p : Program} {l : Launch} {e : Env} {s : State} {m : MethodId} {args : Array Value} {below : List Frame} {meth : Method} {c : Code} {O : XO} {K : XK} {r : Int32} {h' : XH}   (C : x_C p s m args meth c O cX12_again 12 RX12 (some .int))   : ∀ (n : Nat) (ls : Array Slot) (H : Heap) (locs : List Loc) (h : XH) (v1 : Int32) (v2 : Int32) (v3 : Int32) (v4 : Int32) (v5 : Int32) (v6 : Int32) (v7 : Int32) (v8 : Int32) (v9 : Int32) (v10 : Int32) (hl : lv_has ls 12 [(0, .ref (oX O + 64)), (1, .int v1), (2, .int v2), (3, .int v3), (4, .int v4), (5, .int v5), (6, .int v6), (7, .int v7), (8, .int v8), (9, .int v9), (10, .int v10)]) (hR : x_R O K h H) (hS : va_S (oA O) s.heap H locs) (hf : f_X12_again_140 (oX O) n h v1 v2 v3 v4 v5 v6 v7 v8 v9 v10 = some (r, h')), W p l e (x_rm 7 175) s m args below meth c H locs 0 0 (MQ below (x_Qc O K h' (some (.int r))) args s 0 0 (oA O)) (F0 m 140 ls []) := by
  have hx := C.1
  have hb := C.2.1
  intro n
  induction n with
  | zero =>
    intro ls H locs h v1 v2 v3 v4 v5 v6 v7 v8 v9 v10 hl hR hS hf
    rw [f_X12_again_140] at hf
    cases hf
  | succ n ih =>
    intro ls H locs h v1 v2 v3 v4 v5 v6 v7 v8 v9 v10 hl hR hS hf
    rw [f_X12_again_140] at hf
    refine lv_iload hx hb dX12_again_140 (lv_at hl 10 rfl) ?_
    refine lv_iconst (v := 1) hx hb dX12_again_142 rfl ?_
    refine lv_iload hx hb dX12_again_143 (lv_at hl 6 rfl) ?_
    refine lv_ishl hx hb dX12_again_145 ?_
    refine lv_icmp_ge (tgt := 217) hx hb dX12_again_146 rfl (fun hc => ?_) (fun hc => ?_)
    · have hf := x_ip hc hf
      refine lv_iload hx hb dX12_again_217 (lv_at hl 5 rfl) ?_
      have kM11 : ∀ (ls : Array Slot) (H : Heap) (locs : List Loc), lv_has ls 12 [] → x_R O K h H → va_S (oA O) s.heap H locs → W p l e (x_rm 7 175) s m args below meth c H locs 0 0 (MQ below (x_Qc O K h' (some (.int r))) args s 0 0 (oA O)) (F0 m 232 ls [.int (if v5 = 0 then v7 else (v8 - v9))]) := by
        intro ls H locs hl hR hS
        cases hf
        exact x_iret C hR hS dX12_again_232
      refine lv_if_eq (tgt := 230) hx hb dX12_again_219 rfl (fun hc => ?_) (fun hc => ?_)
      · try simp only [if_pos hc] at kM11
        refine lv_iload hx hb dX12_again_230 (lv_at hl 7 rfl) ?_
        exact kM11 ls _ _ (lv_sub hl [] rfl) hR hS
      · try simp only [if_neg hc] at kM11
        refine lv_iload hx hb dX12_again_222 (lv_at hl 8 rfl) ?_
        refine lv_iload hx hb dX12_again_224 (lv_at hl 9 rfl) ?_
        refine lv_isub hx hb dX12_again_226 ?_
        refine lv_goto (tgt := 232) hx hb dX12_again_227 rfl ?_
        exact kM11 ls _ _ (lv_sub hl [] rfl) hR hS
    · have hf := x_in hc hf
      refine lv_iload hx hb dX12_again_149 (lv_at hl 10 rfl) ?_
      refine x_cSi1 C hR hS (S_J6_bitCount_0f7a4  rfl) mf_J6_bitCount_0f7a4 tw_2036 (Nat.le_of_ble_eq_true rfl) (Nat.le_of_ble_eq_true rfl) hl.1 (Nat.le_of_ble_eq_true rfl) dX12_again_151 ⟨Nat.le_refl _, Nat.le_refl _⟩ (fun H locs hR hS => ?_)
      refine lv_iload_n hx hb dX12_again_154 rfl (lv_at hl 3 rfl) ?_
      refine lv_icmp_le (tgt := 161) hx hb dX12_again_155 rfl (fun hc => ?_) (fun hc => ?_)
      · have hf := x_ip hc hf
        refine lv_aload_n hx hb dX12_again_161 rfl (lv_at hl 0 rfl) ?_
        refine lv_iload_n hx hb dX12_again_162 rfl (lv_at hl 1 rfl) ?_
        refine lv_iload_n hx hb dX12_again_163 rfl (lv_at hl 2 rfl) ?_
        refine lv_iload hx hb dX12_again_164 (lv_at hl 10 rfl) ?_
        refine lv_iload hx hb dX12_again_166 (lv_at hl 4 rfl) ?_
        obtain ⟨q12, eq12, hf⟩ := x_bd hf
        refine x_cVi4 C hR hS (S_X12_awaitedBy  eq12) (x_k hR 64 rfl) (by decide) rfl mf_X12_awaitedBy tw_2028 (Nat.le_of_ble_eq_true rfl) (Nat.le_of_ble_eq_true rfl) hl.1 (Nat.le_of_ble_eq_true rfl) dX12_again_168 ⟨Nat.le_refl _, Nat.le_refl _⟩ (fun H locs hR hS => ?_)
        refine lv_istore (lv' := [(11, _), (0, _), (1, _), (2, _), (3, _), (4, _), (5, _), (6, _), (7, _), (8, _), (9, _), (10, _)]) hx hb dX12_again_171 hl (Nat.le_of_ble_eq_true rfl) rfl (fun ls hl => ?_)
        refine lv_iload hx hb dX12_again_173 (lv_at hl 0 rfl) ?_
        refine lv_iload hx hb dX12_again_175 (lv_at hl 9 rfl) ?_
        have kM13 : ∀ (ls : Array Slot) (H : Heap) (locs : List Loc), lv_has ls 12 [(0, .ref (oX O + 64)), (1, .int v1), (2, .int v2), (3, .int v3), (4, .int v4), (5, .int v5), (6, .int v6), (7, .int (if q12.1 < v8 then v7 else (if q12.1 = v8 then (if (f_J6_bitCount_0f7a4 q12.2 v10) < (f_J6_bitCount_0f7a4 q12.2 v7) then v10 else v7) else v10))), (8, .int (if q12.1 < v8 then v8 else (if q12.1 = v8 then (if (f_J6_bitCount_0f7a4 q12.2 v10) < (f_J6_bitCount_0f7a4 q12.2 v7) then q12.1 else v8) else q12.1))), (9, .int v9), (10, .int v10)] → x_R O K q12.2 H → va_S (oA O) s.heap H locs → W p l e (x_rm 7 175) s m args below meth c H locs 0 0 (MQ below (x_Qc O K h' (some (.int r))) args s 0 0 (oA O)) (F0 m 211 ls []) := by
          intro ls H locs hl hR hS
          exact B_X12_again_211  C ih  ls _ _ q12.2 _ _ _ _ _ _ _ _ _ _  (lv_sub hl [0, 1, 2, 3, 4, 5, 6, 7, 8, 9, 10] rfl) hR hS hf
        refine lv_icmp_lt (tgt := 211) hx hb dX12_again_177 rfl (fun hc => ?_) (fun hc => ?_)
        · try simp only [if_pos hc] at kM13
          exact kM13 ls _ _ (lv_sub hl [1, 2, 3, 4, 5, 6, 7, 8, 9, 10, 11] rfl) hR hS
        · try simp only [if_neg hc] at kM13
          refine lv_iload hx hb dX12_again_180 (lv_at hl 0 rfl) ?_
          refine lv_iload hx hb dX12_again_182 (lv_at hl 9 rfl) ?_
          refine lv_icmp_ne (tgt := 203) hx hb dX12_again_184 rfl (fun hc => ?_) (fun hc => ?_)
          · try simp only [if_neg hc] at kM13
            refine lv_iload hx hb dX12_again_203 (lv_at hl 11 rfl) ?_
            refine lv_istore (lv' := [(7, _), (11, _), (0, _), (1, _), (2, _), (3, _), (4, _), (5, _), (6, _), (8, _), (9, _), (10, _)]) hx hb dX12_again_205 hl (Nat.le_of_ble_eq_true rfl) rfl (fun ls hl => ?_)
            refine lv_iload hx hb dX12_again_207 (lv_at hl 1 rfl) ?_
            refine lv_istore (lv' := [(8, _), (7, _), (11, _), (0, _), (1, _), (2, _), (3, _), (4, _), (5, _), (6, _), (9, _), (10, _)]) hx hb dX12_again_209 hl (Nat.le_of_ble_eq_true rfl) rfl (fun ls hl => ?_)
            exact kM13 ls _ _ (lv_sub hl [3, 4, 5, 6, 7, 8, 9, 1, 0, 10, 11] rfl) hR hS
          · try simp only [if_pos hc] at kM13
            refine lv_iload hx hb dX12_again_187 (lv_at hl 11 rfl) ?_
            refine x_cSi1 C hR hS (S_J6_bitCount_0f7a4  rfl) mf_J6_bitCount_0f7a4 tw_2036 (Nat.le_of_ble_eq_true rfl) (Nat.le_of_ble_eq_true rfl) hl.1 (Nat.le_of_ble_eq_true rfl) dX12_again_189 ⟨Nat.le_refl _, Nat.le_refl _⟩ (fun H locs hR hS => ?_)
            refine lv_iload hx hb dX12_again_192 (lv_at hl 8 rfl) ?_
            refine x_cSi1 C hR hS (S_J6_bitCount_0f7a4  rfl) mf_J6_bitCount_0f7a4 tw_2036 (Nat.le_of_ble_eq_true rfl) (Nat.le_of_ble_eq_true rfl) hl.1 (Nat.le_of_ble_eq_true rfl) dX12_again_194 ⟨Nat.le_refl _, Nat.le_refl _⟩ (fun H locs hR hS => ?_)
            refine lv_icmp_lt (tgt := 203) hx hb dX12_again_197 rfl (fun hc => ?_) (fun hc => ?_)
            · try simp only [if_pos hc] at kM13
              refine lv_iload hx hb dX12_again_203 (lv_at hl 11 rfl) ?_
              refine lv_istore (lv' := [(7, _), (11, _), (0, _), (1, _), (2, _), (3, _), (4, _), (5, _), (6, _), (8, _), (9, _), (10, _)]) hx hb dX12_again_205 hl (Nat.le_of_ble_eq_true rfl) rfl (fun ls hl => ?_)
              refine lv_iload hx hb dX12_again_207 (lv_at hl 1 rfl) ?_
              refine lv_istore (lv' := [(8, _), (7, _), (11, _), (0, _), (1, _), (2, _), (3, _), (4, _), (5, _), (6, _), (9, _), (10, _)]) hx hb dX12_again_209 hl (Nat.le_of_ble_eq_true rfl) rfl (fun ls hl => ?_)
              exact kM13 ls _ _ (lv_sub hl [3, 4, 5, 6, 7, 8, 9, 1, 0, 10, 11] rfl) hR hS
            · try simp only [if_neg hc] at kM13
              refine lv_goto (tgt := 211) hx hb dX12_again_200 rfl ?_
              exact kM13 ls _ _ (lv_sub hl [1, 2, 3, 4, 5, 6, 7, 8, 9, 10, 11] rfl) hR hS
      · have hf := x_in hc hf
        refine lv_goto (tgt := 211) hx hb dX12_again_158 rfl ?_
        exact B_X12_again_211  C ih  ls _ _ h _ _ _ _ _ _ _ _ _ _  (lv_sub hl [0, 1, 2, 3, 4, 5, 6, 7, 8, 9, 10] rfl) hR hS hf
set_option maxRecDepth 20000 in
theorem B_X12_again_110 {p : Program} {l : Launch} {e : Env} {s : State} {m : MethodId} {args : Array Value} {below : List Frame} {meth : Method} {c : Code} {O : XO} {K : XK} {r : Int32} {h' : XH}   (C : x_C p s m args meth c O cX12_again 12 RX12 (some .int))   (ls : Array Slot) (H : Heap) (locs : List Loc) (h : XH) (v1 : Int32) (v2 : Int32) (v3 : Int32) (v4 : Int32) (v5 : Int32) (v6 : Int32) (s1 : Int32) (hl : lv_has ls 12 [(0, .ref (oX O + 64)), (1, .int v1), (2, .int v2), (3, .int v3), (4, .int v4), (5, .int v5), (6, .int v6)]) (hR : x_R O K h H) (hS : va_S (oA O) s.heap H locs) (hf : f_X12_again_110 (oX O) h v1 v2 v3 v4 v5 v6 s1 = some (r, h')) : W p l e (x_rm 7 175) s m args below meth c H locs 0 0 (MQ below (x_Qc O K h' (some (.int r))) args s 0 0 (oA O)) (F0 m 110 ls [.int s1, .ref (oX O + 64)]) := by
  have hx := C.1
  have hb := C.2.1
  rw [f_X12_again_110] at hf
  refine lv_iconst (v := 3) hx hb dX12_again_110 rfl ?_
  obtain ⟨q9, eq9, hf⟩ := x_bd hf
  refine x_cVi2 C hR hS (S_X12_throwsIf  eq9) (x_k hR 64 rfl) (by decide) rfl mf_X12_throwsIf tw_1741 (Nat.le_of_ble_eq_true rfl) (Nat.le_of_ble_eq_true rfl) hl.1 (Nat.le_of_ble_eq_true rfl) dX12_again_111 ⟨Nat.le_refl _, Nat.le_refl _⟩ (fun H locs hR hS => ?_)
  refine lv_if_eq (tgt := 119) hx hb dX12_again_114 rfl (fun hc => ?_) (fun hc => ?_)
  · have hf := x_ip hc hf
    refine lv_iconst (v := 0) hx hb dX12_again_119 rfl ?_
    refine lv_istore (lv' := [(7, _), (0, _), (1, _), (2, _), (3, _), (4, _), (5, _), (6, _)]) hx hb dX12_again_120 hl (Nat.le_of_ble_eq_true rfl) rfl (fun ls hl => ?_)
    refine lv_aload_n hx hb dX12_again_122 rfl (lv_at hl 1 rfl) ?_
    refine lv_iload_n hx hb dX12_again_123 rfl (lv_at hl 2 rfl) ?_
    refine lv_iload_n hx hb dX12_again_124 rfl (lv_at hl 3 rfl) ?_
    refine lv_iconst (v := 0) hx hb dX12_again_125 rfl ?_
    refine lv_iload hx hb dX12_again_126 (lv_at hl 5 rfl) ?_
    obtain ⟨q10, eq10, hf⟩ := x_bd hf
    refine x_cVi4 C hR hS (S_X12_awaitedBy  eq10) (x_k hR 64 rfl) (by decide) rfl mf_X12_awaitedBy tw_2028 (Nat.le_of_ble_eq_true rfl) (Nat.le_of_ble_eq_true rfl) hl.1 (Nat.le_of_ble_eq_true rfl) dX12_again_128 ⟨Nat.le_refl _, Nat.le_refl _⟩ (fun H locs hR hS => ?_)
    refine lv_istore (lv' := [(8, _), (7, _), (0, _), (1, _), (2, _), (3, _), (4, _), (5, _), (6, _)]) hx hb dX12_again_131 hl (Nat.le_of_ble_eq_true rfl) rfl (fun ls hl => ?_)
    refine lv_iload hx hb dX12_again_133 (lv_at hl 0 rfl) ?_
    refine lv_istore (lv' := [(9, _), (8, _), (7, _), (0, _), (1, _), (2, _), (3, _), (4, _), (5, _), (6, _)]) hx hb dX12_again_135 hl (Nat.le_of_ble_eq_true rfl) rfl (fun ls hl => ?_)
    refine lv_iconst (v := 1) hx hb dX12_again_137 rfl ?_
    refine lv_istore (lv' := [(10, _), (9, _), (8, _), (7, _), (0, _), (1, _), (2, _), (3, _), (4, _), (5, _), (6, _)]) hx hb dX12_again_138 hl (Nat.le_of_ble_eq_true rfl) rfl (fun ls hl => ?_)
    exact B_X12_again_140  C  x_FU ls _ _ q10.2 _ _ _ _ _ _ _ _ _ _  (lv_sub hl [4, 5, 6, 7, 8, 9, 10, 3, 2, 1, 0] rfl) hR hS hf
  · have hf := x_in hc hf
    refine lv_iconst (v := 0) hx hb dX12_again_117 rfl ?_
    cases hf
    exact x_iret C hR hS dX12_again_118
set_option maxRecDepth 20000 in
theorem B_X12_again_105 {p : Program} {l : Launch} {e : Env} {s : State} {m : MethodId} {args : Array Value} {below : List Frame} {meth : Method} {c : Code} {O : XO} {K : XK} {r : Int32} {h' : XH}   (C : x_C p s m args meth c O cX12_again 12 RX12 (some .int))   (ls : Array Slot) (H : Heap) (locs : List Loc) (h : XH) (v1 : Int32) (v2 : Int32) (v3 : Int32) (v4 : Int32) (v5 : Int32) (v6 : Int32) (hl : lv_has ls 12 [(0, .ref (oX O + 64)), (1, .int v1), (2, .int v2), (3, .int v3), (4, .int v4), (5, .int v5), (6, .int v6)]) (hR : x_R O K h H) (hS : va_S (oA O) s.heap H locs) (hf : f_X12_again_105 (oX O) h v1 v2 v3 v4 v5 v6 = some (r, h')) : W p l e (x_rm 7 175) s m args below meth c H locs 0 0 (MQ below (x_Qc O K h' (some (.int r))) args s 0 0 (oA O)) (F0 m 105 ls [.ref (oX O + 64)]) := by
  have hx := C.1
  have hb := C.2.1
  rw [f_X12_again_105] at hf
  refine lv_iconst (v := 1) hx hb dX12_again_105 rfl ?_
  refine lv_goto (tgt := 110) hx hb dX12_again_106 rfl ?_
  exact B_X12_again_110  C   ls _ _ h _ _ _ _ _ _ _  (lv_sub hl [0, 1, 2, 3, 4, 5, 6] rfl) hR hS hf
set_option maxRecDepth 20000 in
theorem B_X12_again_94 {p : Program} {l : Launch} {e : Env} {s : State} {m : MethodId} {args : Array Value} {below : List Frame} {meth : Method} {c : Code} {O : XO} {K : XK} {r : Int32} {h' : XH}   (C : x_C p s m args meth c O cX12_again 12 RX12 (some .int))   (ls : Array Slot) (H : Heap) (locs : List Loc) (h : XH) (v1 : Int32) (v2 : Int32) (v3 : Int32) (v4 : Int32) (v5 : Int32) (v6 : Int32) (s1 : Int32) (s2 : Int32) (hl : lv_has ls 12 [(0, .ref (oX O + 64)), (1, .int v1), (2, .int v2), (3, .int v3), (4, .int v4), (5, .int v5), (6, .int v6)]) (hR : x_R O K h H) (hS : va_S (oA O) s.heap H locs) (hf : f_X12_again_94 (oX O) h v1 v2 v3 v4 v5 v6 s1 s2 = some (r, h')) : W p l e (x_rm 7 175) s m args below meth c H locs 0 0 (MQ below (x_Qc O K h' (some (.int r))) args s 0 0 (oA O)) (F0 m 94 ls [.int s2, .int s1, .ref (oX O + 64)]) := by
  have hx := C.1
  have hb := C.2.1
  rw [f_X12_again_94] at hf
  have kM15 : ∀ (ls : Array Slot) (H : Heap) (locs : List Loc), lv_has ls 12 [(0, .ref (oX O + 64)), (1, .int v1), (2, .int v2), (3, .int v3), (4, .int v4), (5, .int v5), (6, .int v6)] → x_R O K h H → va_S (oA O) s.heap H locs → W p l e (x_rm 7 175) s m args below meth c H locs 0 0 (MQ below (x_Qc O K h' (some (.int r))) args s 0 0 (oA O)) (F0 m 110 ls [.int (if s1 < s2 then 1 else (if v4 ≤ 99999 then 0 else 1)), .ref (oX O + 64)]) := by
    intro ls H locs hl hR hS
    refine lv_iconst (v := 3) hx hb dX12_again_110 rfl ?_
    obtain ⟨q16, eq16, hf⟩ := x_bd hf
    refine x_cVi2 C hR hS (S_X12_throwsIf  eq16) (x_k hR 64 rfl) (by decide) rfl mf_X12_throwsIf tw_1741 (Nat.le_of_ble_eq_true rfl) (Nat.le_of_ble_eq_true rfl) hl.1 (Nat.le_of_ble_eq_true rfl) dX12_again_111 ⟨Nat.le_refl _, Nat.le_refl _⟩ (fun H locs hR hS => ?_)
    refine lv_if_eq (tgt := 119) hx hb dX12_again_114 rfl (fun hc => ?_) (fun hc => ?_)
    · have hf := x_ip hc hf
      refine lv_iconst (v := 0) hx hb dX12_again_119 rfl ?_
      refine lv_istore (lv' := [(7, _), (0, _), (1, _), (2, _), (3, _), (4, _), (5, _), (6, _)]) hx hb dX12_again_120 hl (Nat.le_of_ble_eq_true rfl) rfl (fun ls hl => ?_)
      refine lv_aload_n hx hb dX12_again_122 rfl (lv_at hl 1 rfl) ?_
      refine lv_iload_n hx hb dX12_again_123 rfl (lv_at hl 2 rfl) ?_
      refine lv_iload_n hx hb dX12_again_124 rfl (lv_at hl 3 rfl) ?_
      refine lv_iconst (v := 0) hx hb dX12_again_125 rfl ?_
      refine lv_iload hx hb dX12_again_126 (lv_at hl 5 rfl) ?_
      obtain ⟨q17, eq17, hf⟩ := x_bd hf
      refine x_cVi4 C hR hS (S_X12_awaitedBy  eq17) (x_k hR 64 rfl) (by decide) rfl mf_X12_awaitedBy tw_2028 (Nat.le_of_ble_eq_true rfl) (Nat.le_of_ble_eq_true rfl) hl.1 (Nat.le_of_ble_eq_true rfl) dX12_again_128 ⟨Nat.le_refl _, Nat.le_refl _⟩ (fun H locs hR hS => ?_)
      refine lv_istore (lv' := [(8, _), (7, _), (0, _), (1, _), (2, _), (3, _), (4, _), (5, _), (6, _)]) hx hb dX12_again_131 hl (Nat.le_of_ble_eq_true rfl) rfl (fun ls hl => ?_)
      refine lv_iload hx hb dX12_again_133 (lv_at hl 0 rfl) ?_
      refine lv_istore (lv' := [(9, _), (8, _), (7, _), (0, _), (1, _), (2, _), (3, _), (4, _), (5, _), (6, _)]) hx hb dX12_again_135 hl (Nat.le_of_ble_eq_true rfl) rfl (fun ls hl => ?_)
      refine lv_iconst (v := 1) hx hb dX12_again_137 rfl ?_
      refine lv_istore (lv' := [(10, _), (9, _), (8, _), (7, _), (0, _), (1, _), (2, _), (3, _), (4, _), (5, _), (6, _)]) hx hb dX12_again_138 hl (Nat.le_of_ble_eq_true rfl) rfl (fun ls hl => ?_)
      exact B_X12_again_140  C  x_FU ls _ _ q17.2 _ _ _ _ _ _ _ _ _ _  (lv_sub hl [4, 5, 6, 7, 8, 9, 10, 3, 2, 1, 0] rfl) hR hS hf
    · have hf := x_in hc hf
      refine lv_iconst (v := 0) hx hb dX12_again_117 rfl ?_
      cases hf
      exact x_iret C hR hS dX12_again_118
  refine lv_icmp_lt (tgt := 105) hx hb dX12_again_94 rfl (fun hc => ?_) (fun hc => ?_)
  · try simp only [if_pos hc] at kM15
    refine lv_iconst (v := 1) hx hb dX12_again_105 rfl ?_
    refine lv_goto (tgt := 110) hx hb dX12_again_106 rfl ?_
    exact kM15 ls _ _ (lv_sub hl [0, 1, 2, 3, 4, 5, 6] rfl) hR hS
  · try simp only [if_neg hc] at kM15
    refine lv_iload hx hb dX12_again_97 (lv_at hl 4 rfl) ?_
    refine lv_ldcw hx hb C.2.2.2.1 (C.2.2.2.2.1 _ tw_2019) dX12_again_99 ?_
    refine lv_icmp_le (tgt := 109) hx hb dX12_again_102 rfl (fun hc => ?_) (fun hc => ?_)
    · try simp only [if_pos hc] at kM15
      refine lv_iconst (v := 0) hx hb dX12_again_109 rfl ?_
      exact kM15 ls _ _ (lv_sub hl [0, 1, 2, 3, 4, 5, 6] rfl) hR hS
    · try simp only [if_neg hc] at kM15
      refine lv_iconst (v := 1) hx hb dX12_again_105 rfl ?_
      refine lv_goto (tgt := 110) hx hb dX12_again_106 rfl ?_
      exact kM15 ls _ _ (lv_sub hl [0, 1, 2, 3, 4, 5, 6] rfl) hR hS
set_option maxRecDepth 20000 in
theorem B_X12_again_27 {p : Program} {l : Launch} {e : Env} {s : State} {m : MethodId} {args : Array Value} {below : List Frame} {meth : Method} {c : Code} {O : XO} {K : XK} {r : Int32} {h' : XH}   (C : x_C p s m args meth c O cX12_again 12 RX12 (some .int))   (ls : Array Slot) (H : Heap) (locs : List Loc) (h : XH) (v1 : Int32) (v2 : Int32) (v3 : Int32) (v4 : Int32) (v5 : Int32) (s1 : Int32) (hl : lv_has ls 12 [(0, .ref (oX O + 64)), (1, .int v1), (2, .int v2), (3, .int v3), (4, .int v4), (5, .int v5)]) (hR : x_R O K h H) (hS : va_S (oA O) s.heap H locs) (hf : f_X12_again_27 (oX O) h v1 v2 v3 v4 v5 s1 = some (r, h')) : W p l e (x_rm 7 175) s m args below meth c H locs 0 0 (MQ below (x_Qc O K h' (some (.int r))) args s 0 0 (oA O)) (F0 m 27 ls [.int s1, .ref (oX O + 64)]) := by
  have hx := C.1
  have hb := C.2.1
  rw [f_X12_again_27] at hf
  refine lv_iconst (v := 1) hx hb dX12_again_27 rfl ?_
  obtain ⟨q3, eq3, hf⟩ := x_bd hf
  refine x_cVi2 C hR hS (S_X12_throwsIf  eq3) (x_k hR 64 rfl) (by decide) rfl mf_X12_throwsIf tw_1741 (Nat.le_of_ble_eq_true rfl) (Nat.le_of_ble_eq_true rfl) hl.1 (Nat.le_of_ble_eq_true rfl) dX12_again_28 ⟨Nat.le_refl _, Nat.le_refl _⟩ (fun H locs hR hS => ?_)
  refine lv_if_ne (tgt := 55) hx hb dX12_again_31 rfl (fun hc => ?_) (fun hc => ?_)
  · have hf := x_in hc hf
    exact B_X12_again_55  C   ls _ _ q3.2  (lv_sub hl [] rfl) hR hS hf
  · have hf := x_ip hc hf
    refine lv_aload_n hx hb dX12_again_34 rfl (lv_at hl 0 rfl) ?_
    refine lv_aload_n hx hb dX12_again_35 rfl (lv_at hl 0 rfl) ?_
    refine lv_iload_n hx hb dX12_again_36 rfl (lv_at hl 2 rfl) ?_
    obtain ⟨v_4, ev_4, hf⟩ := x_bd hf
    refine x_cVi1 C hR hS (S_X12_isPut  ev_4) (x_k hR 64 rfl) (by decide) rfl mf_X12_isPut tw_1818 (Nat.le_of_ble_eq_true rfl) (Nat.le_of_ble_eq_true rfl) hl.1 (Nat.le_of_ble_eq_true rfl) dX12_again_37 ⟨Nat.le_refl _, Nat.le_refl _⟩ (fun H locs hR hS => ?_)
    have kM5 : ∀ (ls : Array Slot) (H : Heap) (locs : List Loc), lv_has ls 12 [(0, .ref (oX O + 64)), (1, .int v1), (2, .int v2), (3, .int v3), (4, .int v4), (5, .int v5)] → x_R O K q3.2 H → va_S (oA O) s.heap H locs → W p l e (x_rm 7 175) s m args below meth c H locs 0 0 (MQ below (x_Qc O K h' (some (.int r))) args s 0 0 (oA O)) (F0 m 48 ls [.int (if v_4 = 0 then 1 else 0), .ref (oX O + 64)]) := by
      intro ls H locs hl hR hS
      refine lv_iconst (v := 2) hx hb dX12_again_48 rfl ?_
      obtain ⟨q6, eq6, hf⟩ := x_bd hf
      refine x_cVi2 C hR hS (S_X12_throwsIf  eq6) (x_k hR 64 rfl) (by decide) rfl mf_X12_throwsIf tw_1741 (Nat.le_of_ble_eq_true rfl) (Nat.le_of_ble_eq_true rfl) hl.1 (Nat.le_of_ble_eq_true rfl) dX12_again_49 ⟨Nat.le_refl _, Nat.le_refl _⟩ (fun H locs hR hS => ?_)
      refine lv_if_eq (tgt := 57) hx hb dX12_again_52 rfl (fun hc => ?_) (fun hc => ?_)
      · have hf := x_ip hc hf
        refine lv_aload_n hx hb dX12_again_57 rfl (lv_at hl 0 rfl) ?_
        refine gf_12_1 C hR (x_k hR 64 rfl) tw_1544 dX12_again_58 ?_
        refine lv_iconst (v := 4) hx hb dX12_again_61 rfl ?_
        obtain ⟨g7, hf⟩ := x_gd hf
        refine x_iald C hR (x_k1 (x_k hR 65 rfl)) (x_k2 (x_k hR 65 rfl) g7) dX12_again_62 ?_
        obtain ⟨t8, et8, hf⟩ := x_lt hf
        refine x_nmi et8 ?_
        refine lv_istore (lv' := [(6, _), (0, _), (1, _), (2, _), (3, _), (4, _), (5, _)]) hx hb dX12_again_63 hl (Nat.le_of_ble_eq_true rfl) rfl (fun ls hl => ?_)
        refine lv_aload_n hx hb dX12_again_65 rfl (lv_at hl 1 rfl) ?_
        refine lv_iload_n hx hb dX12_again_66 rfl (lv_at hl 4 rfl) ?_
        refine lv_if_lt (tgt := 105) hx hb dX12_again_67 rfl (fun hc => ?_) (fun hc => ?_)
        · have hf := x_ip hc hf
          exact B_X12_again_105  C   ls _ _ q6.2 _ _ _ _ _ _  (lv_sub hl [1, 2, 3, 4, 5, 6, 0] rfl) hR hS hf
        · have hf := x_in hc hf
          refine lv_iload hx hb dX12_again_70 (lv_at hl 5 rfl) ?_
          refine lv_iload hx hb dX12_again_72 (lv_at hl 0 rfl) ?_
          refine lv_if_ne (tgt := 81) hx hb dX12_again_74 rfl (fun hc => ?_) (fun hc => ?_)
          · have hf := x_in hc hf
            refine lv_aload_n hx hb dX12_again_81 rfl (lv_at hl 1 rfl) ?_
            refine gf_12_1 C hR (x_k hR 64 rfl) tw_1544 dX12_again_82 ?_
            refine lv_sipush (v := 938) hx hb dX12_again_85 rfl ?_
            refine lv_iload hx hb dX12_again_88 (lv_at hl 0 rfl) ?_
            refine lv_iadd hx hb dX12_again_90 ?_
            refine lv_iconst (v := 1) hx hb dX12_again_91 rfl ?_
            refine lv_isub hx hb dX12_again_92 ?_
            obtain ⟨g14, hf⟩ := x_gd hf
            refine x_iald C hR (x_k1 (x_k hR 65 rfl)) (x_k2 (x_k hR 65 rfl) g14) dX12_again_93 ?_
            exact B_X12_again_94  C   ls _ _ q6.2 _ _ _ _ _ _ _ _  (lv_sub hl [1, 2, 3, 4, 5, 6, 0] rfl) hR hS hf
          · have hf := x_ip hc hf
            refine lv_iconst (v := 0) hx hb dX12_again_77 rfl ?_
            refine lv_goto (tgt := 94) hx hb dX12_again_78 rfl ?_
            exact B_X12_again_94  C   ls _ _ q6.2 _ _ _ _ _ _ _ _  (lv_sub hl [1, 2, 3, 4, 5, 6, 0] rfl) hR hS hf
      · have hf := x_in hc hf
        exact B_X12_again_55  C   ls _ _ q6.2  (lv_sub hl [] rfl) hR hS hf
    refine lv_if_ne (tgt := 47) hx hb dX12_again_40 rfl (fun hc => ?_) (fun hc => ?_)
    · try simp only [if_neg hc] at kM5
      refine lv_iconst (v := 0) hx hb dX12_again_47 rfl ?_
      exact kM5 ls _ _ (lv_sub hl [0, 1, 2, 3, 4, 5] rfl) hR hS
    · try simp only [if_pos hc] at kM5
      refine lv_iconst (v := 1) hx hb dX12_again_43 rfl ?_
      refine lv_goto (tgt := 48) hx hb dX12_again_44 rfl ?_
      exact kM5 ls _ _ (lv_sub hl [0, 1, 2, 3, 4, 5] rfl) hR hS
set_option maxRecDepth 20000 in
theorem B_X12_again_22 {p : Program} {l : Launch} {e : Env} {s : State} {m : MethodId} {args : Array Value} {below : List Frame} {meth : Method} {c : Code} {O : XO} {K : XK} {r : Int32} {h' : XH}   (C : x_C p s m args meth c O cX12_again 12 RX12 (some .int))   (ls : Array Slot) (H : Heap) (locs : List Loc) (h : XH) (v1 : Int32) (v2 : Int32) (v3 : Int32) (v4 : Int32) (v5 : Int32) (hl : lv_has ls 12 [(0, .ref (oX O + 64)), (1, .int v1), (2, .int v2), (3, .int v3), (4, .int v4), (5, .int v5)]) (hR : x_R O K h H) (hS : va_S (oA O) s.heap H locs) (hf : f_X12_again_22 (oX O) h v1 v2 v3 v4 v5 = some (r, h')) : W p l e (x_rm 7 175) s m args below meth c H locs 0 0 (MQ below (x_Qc O K h' (some (.int r))) args s 0 0 (oA O)) (F0 m 22 ls [.ref (oX O + 64)]) := by
  have hx := C.1
  have hb := C.2.1
  rw [f_X12_again_22] at hf
  refine lv_iconst (v := 1) hx hb dX12_again_22 rfl ?_
  refine lv_goto (tgt := 27) hx hb dX12_again_23 rfl ?_
  exact B_X12_again_27  C   ls _ _ h _ _ _ _ _ _  (lv_sub hl [0, 1, 2, 3, 4, 5] rfl) hR hS hf
set_option maxRecDepth 20000 in
theorem S_X12_again {l : Launch} {O : XO} {K : XK} {h : XH} {v1 : Int32} {v2 : Int32} {v3 : Int32} {v4 : Int32} {v5 : Int32}  {r : Int32} {h' : XH}  (hf : f_X12_again (oX O) h v1 v2 v3 v4 v5 = some (r, h')) : x_M l O K yX12_again cX12_again 12 (some .int) 7 175 h [.ref (oX O + 64), .int v1, .int v2, .int v3, .int v4, .int v5] (some (.int r)) h' := by
  refine x_enter (by decide) (Nat.le_of_ble_eq_true rfl) (fun p e s m args below meth c C hR ls hl => ?_)
  have hS : va_S (oA O) s.heap s.heap [] := va_S.rf
  have hx := C.1
  have hb := C.2.1
  have hl : lv_has ls 12 [(0, .ref (oX O + 64)), (1, .int v1), (2, .int v2), (3, .int v3), (4, .int v4), (5, .int v5)] := hl
  rw [f_X12_again] at hf
  refine lv_aload_n hx hb dX12_again_0 rfl (lv_at hl 0 rfl) ?_
  refine lv_iconst (v := 0) hx hb dX12_again_1 rfl ?_
  obtain ⟨h1, eh1, hf⟩ := x_lt hf
  refine pf_12_0 C hR hS (x_k hR 64 rfl) tw_1543 dX12_again_2 (fun H locs hR hS => ?_)
  rw [← eh1] at hR
  refine lv_aload_n hx hb dX12_again_5 rfl (lv_at hl 0 rfl) ?_
  refine lv_aload_n hx hb dX12_again_6 rfl (lv_at hl 0 rfl) ?_
  refine lv_iload_n hx hb dX12_again_7 rfl (lv_at hl 1 rfl) ?_
  obtain ⟨v_2, ev_2, hf⟩ := x_bd hf
  refine x_cVi1 C hR hS (S_X12_noLaw  ev_2) (x_k hR 64 rfl) (by decide) rfl mf_X12_noLaw tw_1881 (Nat.le_of_ble_eq_true rfl) (Nat.le_of_ble_eq_true rfl) hl.1 (Nat.le_of_ble_eq_true rfl) dX12_again_8 ⟨Nat.le_refl _, Nat.le_refl _⟩ (fun H locs hR hS => ?_)
  refine lv_if_ne (tgt := 22) hx hb dX12_again_11 rfl (fun hc => ?_) (fun hc => ?_)
  · have hf := x_in hc hf
    exact B_X12_again_22  C   ls _ _ h1 _ _ _ _ _  (lv_sub hl [0, 1, 2, 3, 4, 5] rfl) hR hS hf
  · have hf := x_ip hc hf
    refine lv_aload_n hx hb dX12_again_14 rfl (lv_at hl 0 rfl) ?_
    refine lv_iload_n hx hb dX12_again_15 rfl (lv_at hl 2 rfl) ?_
    obtain ⟨v_18, ev_18, hf⟩ := x_bd hf
    refine x_cVi1 C hR hS (S_X12_noPack  ev_18) (x_k hR 64 rfl) (by decide) rfl mf_X12_noPack tw_1802 (Nat.le_of_ble_eq_true rfl) (Nat.le_of_ble_eq_true rfl) hl.1 (Nat.le_of_ble_eq_true rfl) dX12_again_16 ⟨Nat.le_refl _, Nat.le_refl _⟩ (fun H locs hR hS => ?_)
    have kM19 : ∀ (ls : Array Slot) (H : Heap) (locs : List Loc), lv_has ls 12 [(0, .ref (oX O + 64)), (1, .int v1), (2, .int v2), (3, .int v3), (4, .int v4), (5, .int v5)] → x_R O K h1 H → va_S (oA O) s.heap H locs → W p l e (x_rm 7 175) s m args below meth c H locs 0 0 (MQ below (x_Qc O K h' (some (.int r))) args s 0 0 (oA O)) (F0 m 27 ls [.int (if v_18 = 0 then 0 else 1), .ref (oX O + 64)]) := by
      intro ls H locs hl hR hS
      refine lv_iconst (v := 1) hx hb dX12_again_27 rfl ?_
      obtain ⟨q20, eq20, hf⟩ := x_bd hf
      refine x_cVi2 C hR hS (S_X12_throwsIf  eq20) (x_k hR 64 rfl) (by decide) rfl mf_X12_throwsIf tw_1741 (Nat.le_of_ble_eq_true rfl) (Nat.le_of_ble_eq_true rfl) hl.1 (Nat.le_of_ble_eq_true rfl) dX12_again_28 ⟨Nat.le_refl _, Nat.le_refl _⟩ (fun H locs hR hS => ?_)
      refine lv_if_ne (tgt := 55) hx hb dX12_again_31 rfl (fun hc => ?_) (fun hc => ?_)
      · have hf := x_in hc hf
        exact B_X12_again_55  C   ls _ _ q20.2  (lv_sub hl [] rfl) hR hS hf
      · have hf := x_ip hc hf
        refine lv_aload_n hx hb dX12_again_34 rfl (lv_at hl 0 rfl) ?_
        refine lv_aload_n hx hb dX12_again_35 rfl (lv_at hl 0 rfl) ?_
        refine lv_iload_n hx hb dX12_again_36 rfl (lv_at hl 2 rfl) ?_
        obtain ⟨v_21, ev_21, hf⟩ := x_bd hf
        refine x_cVi1 C hR hS (S_X12_isPut  ev_21) (x_k hR 64 rfl) (by decide) rfl mf_X12_isPut tw_1818 (Nat.le_of_ble_eq_true rfl) (Nat.le_of_ble_eq_true rfl) hl.1 (Nat.le_of_ble_eq_true rfl) dX12_again_37 ⟨Nat.le_refl _, Nat.le_refl _⟩ (fun H locs hR hS => ?_)
        have kM22 : ∀ (ls : Array Slot) (H : Heap) (locs : List Loc), lv_has ls 12 [(0, .ref (oX O + 64)), (1, .int v1), (2, .int v2), (3, .int v3), (4, .int v4), (5, .int v5)] → x_R O K q20.2 H → va_S (oA O) s.heap H locs → W p l e (x_rm 7 175) s m args below meth c H locs 0 0 (MQ below (x_Qc O K h' (some (.int r))) args s 0 0 (oA O)) (F0 m 48 ls [.int (if v_21 = 0 then 1 else 0), .ref (oX O + 64)]) := by
          intro ls H locs hl hR hS
          refine lv_iconst (v := 2) hx hb dX12_again_48 rfl ?_
          obtain ⟨q23, eq23, hf⟩ := x_bd hf
          refine x_cVi2 C hR hS (S_X12_throwsIf  eq23) (x_k hR 64 rfl) (by decide) rfl mf_X12_throwsIf tw_1741 (Nat.le_of_ble_eq_true rfl) (Nat.le_of_ble_eq_true rfl) hl.1 (Nat.le_of_ble_eq_true rfl) dX12_again_49 ⟨Nat.le_refl _, Nat.le_refl _⟩ (fun H locs hR hS => ?_)
          refine lv_if_eq (tgt := 57) hx hb dX12_again_52 rfl (fun hc => ?_) (fun hc => ?_)
          · have hf := x_ip hc hf
            refine lv_aload_n hx hb dX12_again_57 rfl (lv_at hl 0 rfl) ?_
            refine gf_12_1 C hR (x_k hR 64 rfl) tw_1544 dX12_again_58 ?_
            refine lv_iconst (v := 4) hx hb dX12_again_61 rfl ?_
            obtain ⟨g24, hf⟩ := x_gd hf
            refine x_iald C hR (x_k1 (x_k hR 65 rfl)) (x_k2 (x_k hR 65 rfl) g24) dX12_again_62 ?_
            obtain ⟨t25, et25, hf⟩ := x_lt hf
            refine x_nmi et25 ?_
            refine lv_istore (lv' := [(6, _), (0, _), (1, _), (2, _), (3, _), (4, _), (5, _)]) hx hb dX12_again_63 hl (Nat.le_of_ble_eq_true rfl) rfl (fun ls hl => ?_)
            refine lv_aload_n hx hb dX12_again_65 rfl (lv_at hl 1 rfl) ?_
            refine lv_iload_n hx hb dX12_again_66 rfl (lv_at hl 4 rfl) ?_
            refine lv_if_lt (tgt := 105) hx hb dX12_again_67 rfl (fun hc => ?_) (fun hc => ?_)
            · have hf := x_ip hc hf
              exact B_X12_again_105  C   ls _ _ q23.2 _ _ _ _ _ _  (lv_sub hl [1, 2, 3, 4, 5, 6, 0] rfl) hR hS hf
            · have hf := x_in hc hf
              refine lv_iload hx hb dX12_again_70 (lv_at hl 5 rfl) ?_
              refine lv_iload hx hb dX12_again_72 (lv_at hl 0 rfl) ?_
              refine lv_if_ne (tgt := 81) hx hb dX12_again_74 rfl (fun hc => ?_) (fun hc => ?_)
              · have hf := x_in hc hf
                refine lv_aload_n hx hb dX12_again_81 rfl (lv_at hl 1 rfl) ?_
                refine gf_12_1 C hR (x_k hR 64 rfl) tw_1544 dX12_again_82 ?_
                refine lv_sipush (v := 938) hx hb dX12_again_85 rfl ?_
                refine lv_iload hx hb dX12_again_88 (lv_at hl 0 rfl) ?_
                refine lv_iadd hx hb dX12_again_90 ?_
                refine lv_iconst (v := 1) hx hb dX12_again_91 rfl ?_
                refine lv_isub hx hb dX12_again_92 ?_
                obtain ⟨g26, hf⟩ := x_gd hf
                refine x_iald C hR (x_k1 (x_k hR 65 rfl)) (x_k2 (x_k hR 65 rfl) g26) dX12_again_93 ?_
                exact B_X12_again_94  C   ls _ _ q23.2 _ _ _ _ _ _ _ _  (lv_sub hl [1, 2, 3, 4, 5, 6, 0] rfl) hR hS hf
              · have hf := x_ip hc hf
                refine lv_iconst (v := 0) hx hb dX12_again_77 rfl ?_
                refine lv_goto (tgt := 94) hx hb dX12_again_78 rfl ?_
                exact B_X12_again_94  C   ls _ _ q23.2 _ _ _ _ _ _ _ _  (lv_sub hl [1, 2, 3, 4, 5, 6, 0] rfl) hR hS hf
          · have hf := x_in hc hf
            exact B_X12_again_55  C   ls _ _ q23.2  (lv_sub hl [] rfl) hR hS hf
        refine lv_if_ne (tgt := 47) hx hb dX12_again_40 rfl (fun hc => ?_) (fun hc => ?_)
        · try simp only [if_neg hc] at kM22
          refine lv_iconst (v := 0) hx hb dX12_again_47 rfl ?_
          exact kM22 ls _ _ (lv_sub hl [0, 1, 2, 3, 4, 5] rfl) hR hS
        · try simp only [if_pos hc] at kM22
          refine lv_iconst (v := 1) hx hb dX12_again_43 rfl ?_
          refine lv_goto (tgt := 48) hx hb dX12_again_44 rfl ?_
          exact kM22 ls _ _ (lv_sub hl [0, 1, 2, 3, 4, 5] rfl) hR hS
    refine lv_if_eq (tgt := 26) hx hb dX12_again_19 rfl (fun hc => ?_) (fun hc => ?_)
    · try simp only [if_pos hc] at kM19
      refine lv_iconst (v := 0) hx hb dX12_again_26 rfl ?_
      exact kM19 ls _ _ (lv_sub hl [0, 1, 2, 3, 4, 5] rfl) hR hS
    · try simp only [if_neg hc] at kM19
      refine lv_iconst (v := 1) hx hb dX12_again_22 rfl ?_
      refine lv_goto (tgt := 27) hx hb dX12_again_23 rfl ?_
      exact kM19 ls _ _ (lv_sub hl [0, 1, 2, 3, 4, 5] rfl) hR hS
def f_X12_houses_59 (x : Nat) (h : XH) : Option (Int32 × XH) := some (0, h)
def f_X12_houses_74 (k64 : XH → Int32 → Int32 → Int32 → Int32 → Int32 → Option (Int32 × XH)) (x : Nat) : Nat → XH → Int32 → Int32 → Int32 → Int32 → Int32 → Int32 → Option (Int32 × XH)
  | 0, _, _, _, _, _, _, _ => none
  | n + 1, h, v1, v2, v3, v4, v5, v6 => if 10 ≤ v6 then if x_b 0 10 = true then x_let (x_i h (x + 69) (0 : Int32).toNatClampNeg v3) (fun h7 => if x_b 6 10 = true then x_let (x_i h7 (x + 69) (6 : Int32).toNatClampNeg 3) (fun h9 => if v5 = 0 then none else if x_b 2 10 = true then x_let (x_i h9 (x + 69) (2 : Int32).toNatClampNeg ((v2 - 1) / v5)) (fun h12 => Option.bind (f_X12_held x h12 v1) (fun q13 => if q13.1 < v4 then k64 q13.2 v1 v2 v3 v4 (v5 + 1) else some (v5, q13.2))) else none) else none) else none else if x_b v6 10 = true then x_let (x_i h (x + 69) v6.toNatClampNeg 0) (fun h15 => f_X12_houses_74 k64 x n h15 v1 v2 v3 v4 v5 (v6 + 1)) else none
def f_X12_houses_64 (x : Nat) : Nat → XH → Int32 → Int32 → Int32 → Int32 → Int32 → Option (Int32 × XH)
  | 0, _, _, _, _, _, _ => none
  | n + 1, h, v1, v2, v3, v4, v5 => if 20 < v5 then some ((-1), h) else f_X12_houses_74 (f_X12_houses_64 x n) x x_FU h v1 v2 v3 v4 v5 0
def f_X12_houses (x : Nat) (h : XH) (v1 : Int32) (v2 : Int32) (v3 : Int32) (v4 : Int32) : Option (Int32 × XH) := x_let (x_i h (x + 64) 0 0) (fun h1 => Option.bind (f_X12_noLaw x h1 v1) (fun v_2 => Option.bind (f_X12_throwsIf x h1 v_2 1) (fun q3 => if q3.1 = 0 then Option.bind (f_X12_throwsIf x q3.2 (if (f_X12_in q3.2 v2 1 60) = 0 then 1 else (if (f_X12_noSeconds q3.2 v3) = 0 then (if (f_X12_in q3.2 v4 0 100) = 0 then 1 else 0) else 1)) 2) (fun q5 => if q5.1 = 0 then f_X12_houses_64 x x_FU q5.2 v1 v2 v3 v4 1 else f_X12_houses_59 x q5.2) else f_X12_houses_59 x q3.2)))
set_option maxRecDepth 20000 in
theorem B_X12_houses_59 {p : Program} {l : Launch} {e : Env} {s : State} {m : MethodId} {args : Array Value} {below : List Frame} {meth : Method} {c : Code} {O : XO} {K : XK} {r : Int32} {h' : XH}   (C : x_C p s m args meth c O cX12_houses 7 RX12 (some .int))   (ls : Array Slot) (H : Heap) (locs : List Loc) (h : XH) (hl : lv_has ls 7 []) (hR : x_R O K h H) (hS : va_S (oA O) s.heap H locs) (hf : f_X12_houses_59 (oX O) h = some (r, h')) : W p l e (x_rm 4 94) s m args below meth c H locs 0 0 (MQ below (x_Qc O K h' (some (.int r))) args s 0 0 (oA O)) (F0 m 59 ls []) := by
  have hx := C.1
  have hb := C.2.1
  rw [f_X12_houses_59] at hf
  refine lv_iconst (v := 0) hx hb dX12_houses_59 rfl ?_
  cases hf
  exact x_iret C hR hS dX12_houses_60
set_option maxRecDepth 20000 in
theorem B_X12_houses_74 {p : Program} {l : Launch} {e : Env} {s : State} {m : MethodId} {args : Array Value} {below : List Frame} {meth : Method} {c : Code} {O : XO} {K : XK} {r : Int32} {h' : XH}  {k64 : XH → Int32 → Int32 → Int32 → Int32 → Int32 → Option (Int32 × XH)} (C : x_C p s m args meth c O cX12_houses 7 RX12 (some .int)) (hk64 : ∀ (ls : Array Slot) (H : Heap) (locs : List Loc) (h : XH) (v1 : Int32) (v2 : Int32) (v3 : Int32) (v4 : Int32) (v5 : Int32), lv_has ls 7 [(0, .ref (oX O + 64)), (1, .int v1), (2, .int v2), (3, .int v3), (4, .int v4), (5, .int v5)] → x_R O K h H → va_S (oA O) s.heap H locs → k64 h v1 v2 v3 v4 v5 = some (r, h') → W p l e (x_rm 4 94) s m args below meth c H locs 0 0 (MQ below (x_Qc O K h' (some (.int r))) args s 0 0 (oA O)) (F0 m 64 ls []))  : ∀ (n : Nat) (ls : Array Slot) (H : Heap) (locs : List Loc) (h : XH) (v1 : Int32) (v2 : Int32) (v3 : Int32) (v4 : Int32) (v5 : Int32) (v6 : Int32) (hl : lv_has ls 7 [(0, .ref (oX O + 64)), (1, .int v1), (2, .int v2), (3, .int v3), (4, .int v4), (5, .int v5), (6, .int v6)]) (hR : x_R O K h H) (hS : va_S (oA O) s.heap H locs) (hf : f_X12_houses_74 k64 (oX O) n h v1 v2 v3 v4 v5 v6 = some (r, h')), W p l e (x_rm 4 94) s m args below meth c H locs 0 0 (MQ below (x_Qc O K h' (some (.int r))) args s 0 0 (oA O)) (F0 m 74 ls []) := by
  have hx := C.1
  have hb := C.2.1
  intro n
  induction n with
  | zero =>
    intro ls H locs h v1 v2 v3 v4 v5 v6 hl hR hS hf
    rw [f_X12_houses_74] at hf
    cases hf
  | succ n ih =>
    intro ls H locs h v1 v2 v3 v4 v5 v6 hl hR hS hf
    rw [f_X12_houses_74] at hf
    refine lv_iload hx hb dX12_houses_74 (lv_at hl 6 rfl) ?_
    refine lv_bipush (v := 10) hx hb dX12_houses_76 rfl ?_
    refine lv_icmp_ge (tgt := 95) hx hb dX12_houses_78 rfl (fun hc => ?_) (fun hc => ?_)
    · have hf := x_ip hc hf
      refine lv_aload_n hx hb dX12_houses_95 rfl (lv_at hl 0 rfl) ?_
      refine gf_12_14 C hR (x_k hR 64 rfl) tw_1557 dX12_houses_96 ?_
      refine lv_iconst (v := 0) hx hb dX12_houses_99 rfl ?_
      refine lv_iload_n hx hb dX12_houses_100 rfl (lv_at hl 3 rfl) ?_
      obtain ⟨g6, hf⟩ := x_gd hf
      obtain ⟨h7, eh7, hf⟩ := x_lt hf
      refine x_iast C hR hS (x_k1 (x_k hR 69 rfl)) (x_k2 (x_k hR 69 rfl) g6) dX12_houses_101 (fun H locs hR hS => ?_)
      rw [← eh7] at hR
      refine lv_aload_n hx hb dX12_houses_102 rfl (lv_at hl 0 rfl) ?_
      refine gf_12_14 C hR (x_k hR 64 rfl) tw_1557 dX12_houses_103 ?_
      refine lv_bipush (v := 6) hx hb dX12_houses_106 rfl ?_
      refine lv_iconst (v := 3) hx hb dX12_houses_108 rfl ?_
      obtain ⟨g8, hf⟩ := x_gd hf
      obtain ⟨h9, eh9, hf⟩ := x_lt hf
      refine x_iast C hR hS (x_k1 (x_k hR 69 rfl)) (x_k2 (x_k hR 69 rfl) g8) dX12_houses_109 (fun H locs hR hS => ?_)
      rw [← eh9] at hR
      refine lv_aload_n hx hb dX12_houses_110 rfl (lv_at hl 0 rfl) ?_
      refine gf_12_14 C hR (x_k hR 64 rfl) tw_1557 dX12_houses_111 ?_
      refine lv_iconst (v := 2) hx hb dX12_houses_114 rfl ?_
      refine lv_iload_n hx hb dX12_houses_115 rfl (lv_at hl 2 rfl) ?_
      refine lv_iconst (v := 1) hx hb dX12_houses_116 rfl ?_
      refine lv_isub hx hb dX12_houses_117 ?_
      refine lv_iload hx hb dX12_houses_118 (lv_at hl 5 rfl) ?_
      obtain ⟨g10, hf⟩ := x_gn hf
      refine lv_idiv hx hb dX12_houses_120 g10 ?_
      obtain ⟨g11, hf⟩ := x_gd hf
      obtain ⟨h12, eh12, hf⟩ := x_lt hf
      refine x_iast C hR hS (x_k1 (x_k hR 69 rfl)) (x_k2 (x_k hR 69 rfl) g11) dX12_houses_121 (fun H locs hR hS => ?_)
      rw [← eh12] at hR
      refine lv_aload_n hx hb dX12_houses_122 rfl (lv_at hl 0 rfl) ?_
      refine lv_iload_n hx hb dX12_houses_123 rfl (lv_at hl 1 rfl) ?_
      obtain ⟨q13, eq13, hf⟩ := x_bd hf
      refine x_cVi1 C hR hS (S_X12_held  eq13) (x_k hR 64 rfl) (by decide) rfl mf_X12_held tw_1889 (Nat.le_of_ble_eq_true rfl) (Nat.le_of_ble_eq_true rfl) hl.1 (Nat.le_of_ble_eq_true rfl) dX12_houses_124 ⟨Nat.le_refl _, Nat.le_refl _⟩ (fun H locs hR hS => ?_)
      refine lv_iload hx hb dX12_houses_127 (lv_at hl 4 rfl) ?_
      refine lv_icmp_lt (tgt := 135) hx hb dX12_houses_129 rfl (fun hc => ?_) (fun hc => ?_)
      · have hf := x_ip hc hf
        refine lv_iinc (k := 5) (v := _ + 1) (lv' := [(5, _), (0, _), (1, _), (2, _), (3, _), (4, _), (6, _)]) hx hb dX12_houses_135 hl rfl (x_inc 1 1 rfl _) (Nat.le_of_ble_eq_true rfl) rfl (fun ls hl => ?_)
        refine lv_goto (tgt := 64) hx hb dX12_houses_138 rfl ?_
        exact hk64 ls _ _ q13.2 _ _ _ _ _  (lv_sub hl [1, 2, 3, 4, 5, 0] rfl) hR hS hf
      · have hf := x_in hc hf
        refine lv_iload hx hb dX12_houses_132 (lv_at hl 5 rfl) ?_
        cases hf
        exact x_iret C hR hS dX12_houses_134
    · have hf := x_in hc hf
      refine lv_aload_n hx hb dX12_houses_81 rfl (lv_at hl 0 rfl) ?_
      refine gf_12_14 C hR (x_k hR 64 rfl) tw_1557 dX12_houses_82 ?_
      refine lv_iload hx hb dX12_houses_85 (lv_at hl 6 rfl) ?_
      refine lv_iconst (v := 0) hx hb dX12_houses_87 rfl ?_
      obtain ⟨g14, hf⟩ := x_gd hf
      obtain ⟨h15, eh15, hf⟩ := x_lt hf
      refine x_iast C hR hS (x_k1 (x_k hR 69 rfl)) (x_k2 (x_k hR 69 rfl) g14) dX12_houses_88 (fun H locs hR hS => ?_)
      rw [← eh15] at hR
      refine lv_iinc (k := 6) (v := _ + 1) (lv' := [(6, _), (0, _), (1, _), (2, _), (3, _), (4, _), (5, _)]) hx hb dX12_houses_89 hl rfl (x_inc 1 1 rfl _) (Nat.le_of_ble_eq_true rfl) rfl (fun ls hl => ?_)
      refine lv_goto (tgt := 74) hx hb dX12_houses_92 rfl ?_
      exact ih ls _ _ h15 _ _ _ _ _ _  (lv_sub hl [1, 2, 3, 4, 5, 6, 0] rfl) hR hS hf
set_option maxRecDepth 20000 in
theorem B_X12_houses_64 {p : Program} {l : Launch} {e : Env} {s : State} {m : MethodId} {args : Array Value} {below : List Frame} {meth : Method} {c : Code} {O : XO} {K : XK} {r : Int32} {h' : XH}   (C : x_C p s m args meth c O cX12_houses 7 RX12 (some .int))   : ∀ (n : Nat) (ls : Array Slot) (H : Heap) (locs : List Loc) (h : XH) (v1 : Int32) (v2 : Int32) (v3 : Int32) (v4 : Int32) (v5 : Int32) (hl : lv_has ls 7 [(0, .ref (oX O + 64)), (1, .int v1), (2, .int v2), (3, .int v3), (4, .int v4), (5, .int v5)]) (hR : x_R O K h H) (hS : va_S (oA O) s.heap H locs) (hf : f_X12_houses_64 (oX O) n h v1 v2 v3 v4 v5 = some (r, h')), W p l e (x_rm 4 94) s m args below meth c H locs 0 0 (MQ below (x_Qc O K h' (some (.int r))) args s 0 0 (oA O)) (F0 m 64 ls []) := by
  have hx := C.1
  have hb := C.2.1
  intro n
  induction n with
  | zero =>
    intro ls H locs h v1 v2 v3 v4 v5 hl hR hS hf
    rw [f_X12_houses_64] at hf
    cases hf
  | succ n ih =>
    intro ls H locs h v1 v2 v3 v4 v5 hl hR hS hf
    rw [f_X12_houses_64] at hf
    refine lv_iload hx hb dX12_houses_64 (lv_at hl 5 rfl) ?_
    refine lv_bipush (v := 20) hx hb dX12_houses_66 rfl ?_
    refine lv_icmp_gt (tgt := 141) hx hb dX12_houses_68 rfl (fun hc => ?_) (fun hc => ?_)
    · have hf := x_ip hc hf
      refine lv_iconst (v := (-1)) hx hb dX12_houses_141 rfl ?_
      cases hf
      exact x_iret C hR hS dX12_houses_142
    · have hf := x_in hc hf
      refine lv_iconst (v := 0) hx hb dX12_houses_71 rfl ?_
      refine lv_istore (lv' := [(6, _), (0, _), (1, _), (2, _), (3, _), (4, _), (5, _)]) hx hb dX12_houses_72 hl (Nat.le_of_ble_eq_true rfl) rfl (fun ls hl => ?_)
      exact B_X12_houses_74  C ih x_FU ls _ _ h _ _ _ _ _ _  (lv_sub hl [1, 2, 3, 4, 5, 6, 0] rfl) hR hS hf
set_option maxRecDepth 20000 in
theorem S_X12_houses {l : Launch} {O : XO} {K : XK} {h : XH} {v1 : Int32} {v2 : Int32} {v3 : Int32} {v4 : Int32}  {r : Int32} {h' : XH}  (hf : f_X12_houses (oX O) h v1 v2 v3 v4 = some (r, h')) : x_M l O K yX12_houses cX12_houses 7 (some .int) 4 94 h [.ref (oX O + 64), .int v1, .int v2, .int v3, .int v4] (some (.int r)) h' := by
  refine x_enter (by decide) (Nat.le_of_ble_eq_true rfl) (fun p e s m args below meth c C hR ls hl => ?_)
  have hS : va_S (oA O) s.heap s.heap [] := va_S.rf
  have hx := C.1
  have hb := C.2.1
  have hl : lv_has ls 7 [(0, .ref (oX O + 64)), (1, .int v1), (2, .int v2), (3, .int v3), (4, .int v4)] := hl
  rw [f_X12_houses] at hf
  refine lv_aload_n hx hb dX12_houses_0 rfl (lv_at hl 0 rfl) ?_
  refine lv_iconst (v := 0) hx hb dX12_houses_1 rfl ?_
  obtain ⟨h1, eh1, hf⟩ := x_lt hf
  refine pf_12_0 C hR hS (x_k hR 64 rfl) tw_1543 dX12_houses_2 (fun H locs hR hS => ?_)
  rw [← eh1] at hR
  refine lv_aload_n hx hb dX12_houses_5 rfl (lv_at hl 0 rfl) ?_
  refine lv_aload_n hx hb dX12_houses_6 rfl (lv_at hl 0 rfl) ?_
  refine lv_iload_n hx hb dX12_houses_7 rfl (lv_at hl 1 rfl) ?_
  obtain ⟨v_2, ev_2, hf⟩ := x_bd hf
  refine x_cVi1 C hR hS (S_X12_noLaw  ev_2) (x_k hR 64 rfl) (by decide) rfl mf_X12_noLaw tw_1881 (Nat.le_of_ble_eq_true rfl) (Nat.le_of_ble_eq_true rfl) hl.1 (Nat.le_of_ble_eq_true rfl) dX12_houses_8 ⟨Nat.le_refl _, Nat.le_refl _⟩ (fun H locs hR hS => ?_)
  refine lv_iconst (v := 1) hx hb dX12_houses_11 rfl ?_
  obtain ⟨q3, eq3, hf⟩ := x_bd hf
  refine x_cVi2 C hR hS (S_X12_throwsIf  eq3) (x_k hR 64 rfl) (by decide) rfl mf_X12_throwsIf tw_1741 (Nat.le_of_ble_eq_true rfl) (Nat.le_of_ble_eq_true rfl) hl.1 (Nat.le_of_ble_eq_true rfl) dX12_houses_12 ⟨Nat.le_refl _, Nat.le_refl _⟩ (fun H locs hR hS => ?_)
  refine lv_if_ne (tgt := 59) hx hb dX12_houses_15 rfl (fun hc => ?_) (fun hc => ?_)
  · have hf := x_in hc hf
    exact B_X12_houses_59  C   ls _ _ q3.2  (lv_sub hl [] rfl) hR hS hf
  · have hf := x_ip hc hf
    refine lv_aload_n hx hb dX12_houses_18 rfl (lv_at hl 0 rfl) ?_
    refine lv_iload_n hx hb dX12_houses_19 rfl (lv_at hl 2 rfl) ?_
    refine lv_iconst (v := 1) hx hb dX12_houses_20 rfl ?_
    refine lv_bipush (v := 60) hx hb dX12_houses_21 rfl ?_
    refine x_cSi3 C hR hS (S_X12_in  rfl) mf_X12_in tw_1756 (Nat.le_of_ble_eq_true rfl) (Nat.le_of_ble_eq_true rfl) hl.1 (Nat.le_of_ble_eq_true rfl) dX12_houses_23 ⟨Nat.le_refl _, Nat.le_refl _⟩ (fun H locs hR hS => ?_)
    have kM4 : ∀ (ls : Array Slot) (H : Heap) (locs : List Loc), lv_has ls 7 [(0, .ref (oX O + 64)), (1, .int v1), (2, .int v2), (3, .int v3), (4, .int v4)] → x_R O K q3.2 H → va_S (oA O) s.heap H locs → W p l e (x_rm 4 94) s m args below meth c H locs 0 0 (MQ below (x_Qc O K h' (some (.int r))) args s 0 0 (oA O)) (F0 m 52 ls [.int (if (f_X12_in q3.2 v2 1 60) = 0 then 1 else (if (f_X12_noSeconds q3.2 v3) = 0 then (if (f_X12_in q3.2 v4 0 100) = 0 then 1 else 0) else 1)), .ref (oX O + 64)]) := by
      intro ls H locs hl hR hS
      refine lv_iconst (v := 2) hx hb dX12_houses_52 rfl ?_
      obtain ⟨q5, eq5, hf⟩ := x_bd hf
      refine x_cVi2 C hR hS (S_X12_throwsIf  eq5) (x_k hR 64 rfl) (by decide) rfl mf_X12_throwsIf tw_1741 (Nat.le_of_ble_eq_true rfl) (Nat.le_of_ble_eq_true rfl) hl.1 (Nat.le_of_ble_eq_true rfl) dX12_houses_53 ⟨Nat.le_refl _, Nat.le_refl _⟩ (fun H locs hR hS => ?_)
      refine lv_if_eq (tgt := 61) hx hb dX12_houses_56 rfl (fun hc => ?_) (fun hc => ?_)
      · have hf := x_ip hc hf
        refine lv_iconst (v := 1) hx hb dX12_houses_61 rfl ?_
        refine lv_istore (lv' := [(5, _), (0, _), (1, _), (2, _), (3, _), (4, _)]) hx hb dX12_houses_62 hl (Nat.le_of_ble_eq_true rfl) rfl (fun ls hl => ?_)
        exact B_X12_houses_64  C  x_FU ls _ _ q5.2 _ _ _ _ _  (lv_sub hl [1, 2, 3, 4, 5, 0] rfl) hR hS hf
      · have hf := x_in hc hf
        exact B_X12_houses_59  C   ls _ _ q5.2  (lv_sub hl [] rfl) hR hS hf
    refine lv_if_eq (tgt := 47) hx hb dX12_houses_26 rfl (fun hc => ?_) (fun hc => ?_)
    · try simp only [if_pos hc] at kM4
      refine lv_iconst (v := 1) hx hb dX12_houses_47 rfl ?_
      refine lv_goto (tgt := 52) hx hb dX12_houses_48 rfl ?_
      exact kM4 ls _ _ (lv_sub hl [0, 1, 2, 3, 4] rfl) hR hS
    · try simp only [if_neg hc] at kM4
      refine lv_iload_n hx hb dX12_houses_29 rfl (lv_at hl 3 rfl) ?_
      refine x_cSi1 C hR hS (S_X12_noSeconds  rfl) mf_X12_noSeconds tw_1822 (Nat.le_of_ble_eq_true rfl) (Nat.le_of_ble_eq_true rfl) hl.1 (Nat.le_of_ble_eq_true rfl) dX12_houses_30 ⟨Nat.le_refl _, Nat.le_refl _⟩ (fun H locs hR hS => ?_)
      refine lv_if_ne (tgt := 47) hx hb dX12_houses_33 rfl (fun hc => ?_) (fun hc => ?_)
      · try simp only [if_neg hc] at kM4
        refine lv_iconst (v := 1) hx hb dX12_houses_47 rfl ?_
        refine lv_goto (tgt := 52) hx hb dX12_houses_48 rfl ?_
        exact kM4 ls _ _ (lv_sub hl [0, 1, 2, 3, 4] rfl) hR hS
      · try simp only [if_pos hc] at kM4
        refine lv_iload hx hb dX12_houses_36 (lv_at hl 4 rfl) ?_
        refine lv_iconst (v := 0) hx hb dX12_houses_38 rfl ?_
        refine lv_bipush (v := 100) hx hb dX12_houses_39 rfl ?_
        refine x_cSi3 C hR hS (S_X12_in  rfl) mf_X12_in tw_1756 (Nat.le_of_ble_eq_true rfl) (Nat.le_of_ble_eq_true rfl) hl.1 (Nat.le_of_ble_eq_true rfl) dX12_houses_41 ⟨Nat.le_refl _, Nat.le_refl _⟩ (fun H locs hR hS => ?_)
        refine lv_if_ne (tgt := 51) hx hb dX12_houses_44 rfl (fun hc => ?_) (fun hc => ?_)
        · try simp only [if_neg hc] at kM4
          refine lv_iconst (v := 0) hx hb dX12_houses_51 rfl ?_
          exact kM4 ls _ _ (lv_sub hl [0, 1, 2, 3, 4] rfl) hR hS
        · try simp only [if_pos hc] at kM4
          refine lv_iconst (v := 1) hx hb dX12_houses_47 rfl ?_
          refine lv_goto (tgt := 52) hx hb dX12_houses_48 rfl ?_
          exact kM4 ls _ _ (lv_sub hl [0, 1, 2, 3, 4] rfl) hR hS
def f_X12_awaitedAt_27 (x : Nat) : Nat → XH → Int32 → Int32 → Int32 → Int32 → Int32 → Int32 → Int32 → Option (Int32 × XH)
  | 0, _, _, _, _, _, _, _, _ => none
  | n + 1, h, v1, v2, v3, v4, v5, v6, v7 => Option.bind (f_X12_of x h v2 2) (fun v_4 => if v_4 ≤ v7 then some (v6, h) else Option.bind (f_X12_supposes x h v2 v7 v3 0 v4 v5 0 0 1000) (fun h5 => Option.bind (f_X12_held x h5 v1) (fun q6 => f_X12_awaitedAt_27 x n q6.2 v1 v2 v3 v4 v5 (v6 + q6.1) (v7 + 1))))
def f_X12_awaitedAt (x : Nat) (h : XH) (v1 : Int32) (v2 : Int32) (v3 : Int32) (v4 : Int32) (v5 : Int32) : Option (Int32 × XH) := Option.bind (f_X12_of x h v2 2) (fun v_1 => Option.bind (f_X12_placesFor h v_1 v4) (fun v_2 => Option.bind (f_X12_doors x h v3) (fun v_3 => if v_2 ≤ v_3 then f_X12_awaitedAt_27 x x_FU h v1 v2 v3 v4 v5 0 0 else some ((-1), h))))
set_option maxRecDepth 20000 in
theorem B_X12_awaitedAt_27 {p : Program} {l : Launch} {e : Env} {s : State} {m : MethodId} {args : Array Value} {below : List Frame} {meth : Method} {c : Code} {O : XO} {K : XK} {r : Int32} {h' : XH}   (C : x_C p s m args meth c O cX12_awaitedAt 8 RX12 (some .int))   : ∀ (n : Nat) (ls : Array Slot) (H : Heap) (locs : List Loc) (h : XH) (v1 : Int32) (v2 : Int32) (v3 : Int32) (v4 : Int32) (v5 : Int32) (v6 : Int32) (v7 : Int32) (hl : lv_has ls 8 [(0, .ref (oX O + 64)), (1, .int v1), (2, .int v2), (3, .int v3), (4, .int v4), (5, .int v5), (6, .int v6), (7, .int v7)]) (hR : x_R O K h H) (hS : va_S (oA O) s.heap H locs) (hf : f_X12_awaitedAt_27 (oX O) n h v1 v2 v3 v4 v5 v6 v7 = some (r, h')), W p l e (x_rm 5 124) s m args below meth c H locs 0 0 (MQ below (x_Qc O K h' (some (.int r))) args s 0 0 (oA O)) (F0 m 27 ls []) := by
  have hx := C.1
  have hb := C.2.1
  intro n
  induction n with
  | zero =>
    intro ls H locs h v1 v2 v3 v4 v5 v6 v7 hl hR hS hf
    rw [f_X12_awaitedAt_27] at hf
    cases hf
  | succ n ih =>
    intro ls H locs h v1 v2 v3 v4 v5 v6 v7 hl hR hS hf
    rw [f_X12_awaitedAt_27] at hf
    refine lv_iload hx hb dX12_awaitedAt_27 (lv_at hl 7 rfl) ?_
    refine lv_aload_n hx hb dX12_awaitedAt_29 rfl (lv_at hl 0 rfl) ?_
    refine lv_iload_n hx hb dX12_awaitedAt_30 rfl (lv_at hl 2 rfl) ?_
    refine lv_iconst (v := 2) hx hb dX12_awaitedAt_31 rfl ?_
    obtain ⟨v_4, ev_4, hf⟩ := x_bd hf
    refine x_cVi2 C hR hS (S_X12_of  ev_4) (x_k hR 64 rfl) (by decide) rfl mf_X12_of tw_1806 (Nat.le_of_ble_eq_true rfl) (Nat.le_of_ble_eq_true rfl) hl.1 (Nat.le_of_ble_eq_true rfl) dX12_awaitedAt_32 ⟨Nat.le_refl _, Nat.le_refl _⟩ (fun H locs hR hS => ?_)
    refine lv_icmp_ge (tgt := 72) hx hb dX12_awaitedAt_35 rfl (fun hc => ?_) (fun hc => ?_)
    · have hf := x_ip hc hf
      refine lv_iload hx hb dX12_awaitedAt_72 (lv_at hl 6 rfl) ?_
      cases hf
      exact x_iret C hR hS dX12_awaitedAt_74
    · have hf := x_in hc hf
      refine lv_aload_n hx hb dX12_awaitedAt_38 rfl (lv_at hl 0 rfl) ?_
      refine lv_iload_n hx hb dX12_awaitedAt_39 rfl (lv_at hl 2 rfl) ?_
      refine lv_iload hx hb dX12_awaitedAt_40 (lv_at hl 7 rfl) ?_
      refine lv_iload_n hx hb dX12_awaitedAt_42 rfl (lv_at hl 3 rfl) ?_
      refine lv_iconst (v := 0) hx hb dX12_awaitedAt_43 rfl ?_
      refine lv_iload hx hb dX12_awaitedAt_44 (lv_at hl 4 rfl) ?_
      refine lv_iload hx hb dX12_awaitedAt_46 (lv_at hl 5 rfl) ?_
      refine lv_iconst (v := 0) hx hb dX12_awaitedAt_48 rfl ?_
      refine lv_iconst (v := 0) hx hb dX12_awaitedAt_49 rfl ?_
      refine lv_sipush (v := 1000) hx hb dX12_awaitedAt_50 rfl ?_
      obtain ⟨h5, eh5, hf⟩ := x_bd hf
      refine x_cVv9 C hR hS (S_X12_supposes  eh5) (x_k hR 64 rfl) (by decide) rfl mf_X12_supposes tw_1857 (Nat.le_of_ble_eq_true rfl) (Nat.le_of_ble_eq_true rfl) hl.1 (Nat.le_of_ble_eq_true rfl) dX12_awaitedAt_53 ⟨Nat.le_refl _, Nat.le_refl _⟩ (fun H locs hR hS => ?_)
      refine lv_iload hx hb dX12_awaitedAt_56 (lv_at hl 6 rfl) ?_
      refine lv_aload_n hx hb dX12_awaitedAt_58 rfl (lv_at hl 0 rfl) ?_
      refine lv_iload_n hx hb dX12_awaitedAt_59 rfl (lv_at hl 1 rfl) ?_
      obtain ⟨q6, eq6, hf⟩ := x_bd hf
      refine x_cVi1 C hR hS (S_X12_held  eq6) (x_k hR 64 rfl) (by decide) rfl mf_X12_held tw_1889 (Nat.le_of_ble_eq_true rfl) (Nat.le_of_ble_eq_true rfl) hl.1 (Nat.le_of_ble_eq_true rfl) dX12_awaitedAt_60 ⟨Nat.le_refl _, Nat.le_refl _⟩ (fun H locs hR hS => ?_)
      refine lv_iadd hx hb dX12_awaitedAt_63 ?_
      refine lv_istore (lv' := [(6, _), (0, _), (1, _), (2, _), (3, _), (4, _), (5, _), (7, _)]) hx hb dX12_awaitedAt_64 hl (Nat.le_of_ble_eq_true rfl) rfl (fun ls hl => ?_)
      refine lv_iinc (k := 7) (v := _ + 1) (lv' := [(7, _), (6, _), (0, _), (1, _), (2, _), (3, _), (4, _), (5, _)]) hx hb dX12_awaitedAt_66 hl rfl (x_inc 1 1 rfl _) (Nat.le_of_ble_eq_true rfl) rfl (fun ls hl => ?_)
      refine lv_goto (tgt := 27) hx hb dX12_awaitedAt_69 rfl ?_
      exact ih ls _ _ q6.2 _ _ _ _ _ _ _  (lv_sub hl [2, 3, 4, 5, 6, 7, 1, 0] rfl) hR hS hf
set_option maxRecDepth 20000 in
theorem S_X12_awaitedAt {l : Launch} {O : XO} {K : XK} {h : XH} {v1 : Int32} {v2 : Int32} {v3 : Int32} {v4 : Int32} {v5 : Int32}  {r : Int32} {h' : XH}  (hf : f_X12_awaitedAt (oX O) h v1 v2 v3 v4 v5 = some (r, h')) : x_M l O K yX12_awaitedAt cX12_awaitedAt 8 (some .int) 5 124 h [.ref (oX O + 64), .int v1, .int v2, .int v3, .int v4, .int v5] (some (.int r)) h' := by
  refine x_enter (by decide) (Nat.le_of_ble_eq_true rfl) (fun p e s m args below meth c C hR ls hl => ?_)
  have hS : va_S (oA O) s.heap s.heap [] := va_S.rf
  have hx := C.1
  have hb := C.2.1
  have hl : lv_has ls 8 [(0, .ref (oX O + 64)), (1, .int v1), (2, .int v2), (3, .int v3), (4, .int v4), (5, .int v5)] := hl
  rw [f_X12_awaitedAt] at hf
  refine lv_aload_n hx hb dX12_awaitedAt_0 rfl (lv_at hl 0 rfl) ?_
  refine lv_iload_n hx hb dX12_awaitedAt_1 rfl (lv_at hl 2 rfl) ?_
  refine lv_iconst (v := 2) hx hb dX12_awaitedAt_2 rfl ?_
  obtain ⟨v_1, ev_1, hf⟩ := x_bd hf
  refine x_cVi2 C hR hS (S_X12_of  ev_1) (x_k hR 64 rfl) (by decide) rfl mf_X12_of tw_1806 (Nat.le_of_ble_eq_true rfl) (Nat.le_of_ble_eq_true rfl) hl.1 (Nat.le_of_ble_eq_true rfl) dX12_awaitedAt_3 ⟨Nat.le_refl _, Nat.le_refl _⟩ (fun H locs hR hS => ?_)
  refine lv_iload hx hb dX12_awaitedAt_6 (lv_at hl 4 rfl) ?_
  obtain ⟨v_2, ev_2, hf⟩ := x_bd hf
  refine x_cSi2 C hR hS (S_X12_placesFor  ev_2) mf_X12_placesFor tw_1825 (Nat.le_of_ble_eq_true rfl) (Nat.le_of_ble_eq_true rfl) hl.1 (Nat.le_of_ble_eq_true rfl) dX12_awaitedAt_8 ⟨Nat.le_refl _, Nat.le_refl _⟩ (fun H locs hR hS => ?_)
  refine lv_aload_n hx hb dX12_awaitedAt_11 rfl (lv_at hl 0 rfl) ?_
  refine lv_iload_n hx hb dX12_awaitedAt_12 rfl (lv_at hl 3 rfl) ?_
  obtain ⟨v_3, ev_3, hf⟩ := x_bd hf
  refine x_cVi1 C hR hS (S_X12_doors  ev_3) (x_k hR 64 rfl) (by decide) rfl mf_X12_doors tw_1782 (Nat.le_of_ble_eq_true rfl) (Nat.le_of_ble_eq_true rfl) hl.1 (Nat.le_of_ble_eq_true rfl) dX12_awaitedAt_13 ⟨Nat.le_refl _, Nat.le_refl _⟩ (fun H locs hR hS => ?_)
  refine lv_icmp_le (tgt := 21) hx hb dX12_awaitedAt_16 rfl (fun hc => ?_) (fun hc => ?_)
  · have hf := x_ip hc hf
    refine lv_iconst (v := 0) hx hb dX12_awaitedAt_21 rfl ?_
    refine lv_istore (lv' := [(6, _), (0, _), (1, _), (2, _), (3, _), (4, _), (5, _)]) hx hb dX12_awaitedAt_22 hl (Nat.le_of_ble_eq_true rfl) rfl (fun ls hl => ?_)
    refine lv_iconst (v := 0) hx hb dX12_awaitedAt_24 rfl ?_
    refine lv_istore (lv' := [(7, _), (6, _), (0, _), (1, _), (2, _), (3, _), (4, _), (5, _)]) hx hb dX12_awaitedAt_25 hl (Nat.le_of_ble_eq_true rfl) rfl (fun ls hl => ?_)
    exact B_X12_awaitedAt_27  C  x_FU ls _ _ h _ _ _ _ _ _ _  (lv_sub hl [2, 3, 4, 5, 6, 7, 1, 0] rfl) hR hS hf
  · have hf := x_in hc hf
    refine lv_iconst (v := (-1)) hx hb dX12_awaitedAt_19 rfl ?_
    cases hf
    exact x_iret C hR hS dX12_awaitedAt_20
def f_X12_per_68 (x : Nat) (h : XH) : Option (Int32 × XH) := some (0, h)
def f_X12_per_127 (k79 : XH → Int32 → Int32 → Int32 → Int32 → Int32 → Int32 → Int32 → Int32 → Option (Int32 × XH)) (x : Nat) (h : XH) (v1 : Int32) (v2 : Int32) (v3 : Int32) (v4 : Int32) (v5 : Int32) (v6 : Int32) (v7 : Int32) (v8 : Int32) (s0 : Int32) : Option (Int32 × XH) := k79 h v1 v2 v3 v4 v5 (if v7 < s0 then v8 else v6) (if v7 < s0 then s0 else v7) (v8 + 1)
def f_X12_per_79 (x : Nat) : Nat → XH → Int32 → Int32 → Int32 → Int32 → Int32 → Int32 → Int32 → Int32 → Option (Int32 × XH)
  | 0, _, _, _, _, _, _, _, _, _ => none
  | n + 1, h, v1, v2, v3, v4, v5, v6, v7, v8 => if 3 < v8 then some ((if v5 = 0 then v6 else v7), h) else Option.bind (f_X12_of x h v2 2) (fun v_7 => Option.bind (f_X12_placesFor h v_7 v8) (fun v_8 => if v_8 = 0 then none else x_let ((f_J9_min_7cf53 h 60 (v4 / v_8)) : Int32) (fun t10 => if 1 ≤ t10 then Option.bind (f_X12_awaitedAt x h v1 v2 v3 v8 t10) (fun q11 => f_X12_per_127 (f_X12_per_79 x n) x q11.2 v1 v2 v3 v4 v5 v6 v7 v8 q11.1) else f_X12_per_127 (f_X12_per_79 x n) x h v1 v2 v3 v4 v5 v6 v7 v8 (-1))))
def f_X12_per_36 (x : Nat) (h : XH) (v1 : Int32) (v2 : Int32) (v3 : Int32) (v4 : Int32) (v5 : Int32) (s1 : Int32) : Option (Int32 × XH) := Option.bind (f_X12_throwsIf x h s1 1) (fun q3 => if q3.1 = 0 then Option.bind (f_X12_throwsIf x q3.2 (if (f_X12_in q3.2 v4 1 9999) = 0 then 1 else 0) 2) (fun q5 => if q5.1 = 0 then f_X12_per_79 x x_FU q5.2 v1 v2 v3 v4 v5 (-1) (-1) 1 else f_X12_per_68 x q5.2) else f_X12_per_68 x q3.2)
def f_X12_per_31 (x : Nat) (h : XH) (v1 : Int32) (v2 : Int32) (v3 : Int32) (v4 : Int32) (v5 : Int32) : Option (Int32 × XH) := f_X12_per_36 x h v1 v2 v3 v4 v5 1
def f_X12_per (x : Nat) (h : XH) (v1 : Int32) (v2 : Int32) (v3 : Int32) (v4 : Int32) (v5 : Int32) : Option (Int32 × XH) := x_let (x_i h (x + 64) 0 0) (fun h1 => Option.bind (f_X12_noLaw x h1 v1) (fun v_2 => if v_2 = 0 then Option.bind (f_X12_noPack x h1 v2) (fun v_13 => if v_13 = 0 then Option.bind (f_X12_none x h1 v3 0) (fun v_14 => Option.bind (f_X12_throwsIf x h1 (if v_14 = 0 then 0 else 1) 1) (fun q16 => if q16.1 = 0 then Option.bind (f_X12_throwsIf x q16.2 (if (f_X12_in q16.2 v4 1 9999) = 0 then 1 else 0) 2) (fun q18 => if q18.1 = 0 then f_X12_per_79 x x_FU q18.2 v1 v2 v3 v4 v5 (-1) (-1) 1 else f_X12_per_68 x q18.2) else f_X12_per_68 x q16.2)) else f_X12_per_31 x h1 v1 v2 v3 v4 v5) else f_X12_per_31 x h1 v1 v2 v3 v4 v5))
set_option maxRecDepth 20000 in
theorem B_X12_per_68 {p : Program} {l : Launch} {e : Env} {s : State} {m : MethodId} {args : Array Value} {below : List Frame} {meth : Method} {c : Code} {O : XO} {K : XK} {r : Int32} {h' : XH}   (C : x_C p s m args meth c O cX12_per 11 RX12 (some .int))   (ls : Array Slot) (H : Heap) (locs : List Loc) (h : XH) (hl : lv_has ls 11 []) (hR : x_R O K h H) (hS : va_S (oA O) s.heap H locs) (hf : f_X12_per_68 (oX O) h = some (r, h')) : W p l e (x_rm 6 151) s m args below meth c H locs 0 0 (MQ below (x_Qc O K h' (some (.int r))) args s 0 0 (oA O)) (F0 m 68 ls []) := by
  have hx := C.1
  have hb := C.2.1
  rw [f_X12_per_68] at hf
  refine lv_iconst (v := 0) hx hb dX12_per_68 rfl ?_
  cases hf
  exact x_iret C hR hS dX12_per_69
set_option maxRecDepth 20000 in
theorem B_X12_per_127 {p : Program} {l : Launch} {e : Env} {s : State} {m : MethodId} {args : Array Value} {below : List Frame} {meth : Method} {c : Code} {O : XO} {K : XK} {r : Int32} {h' : XH}  {k79 : XH → Int32 → Int32 → Int32 → Int32 → Int32 → Int32 → Int32 → Int32 → Option (Int32 × XH)} (C : x_C p s m args meth c O cX12_per 11 RX12 (some .int)) (hk79 : ∀ (ls : Array Slot) (H : Heap) (locs : List Loc) (h : XH) (v1 : Int32) (v2 : Int32) (v3 : Int32) (v4 : Int32) (v5 : Int32) (v6 : Int32) (v7 : Int32) (v8 : Int32), lv_has ls 11 [(0, .ref (oX O + 64)), (1, .int v1), (2, .int v2), (3, .int v3), (4, .int v4), (5, .int v5), (6, .int v6), (7, .int v7), (8, .int v8)] → x_R O K h H → va_S (oA O) s.heap H locs → k79 h v1 v2 v3 v4 v5 v6 v7 v8 = some (r, h') → W p l e (x_rm 6 151) s m args below meth c H locs 0 0 (MQ below (x_Qc O K h' (some (.int r))) args s 0 0 (oA O)) (F0 m 79 ls []))  (ls : Array Slot) (H : Heap) (locs : List Loc) (h : XH) (v1 : Int32) (v2 : Int32) (v3 : Int32) (v4 : Int32) (v5 : Int32) (v6 : Int32) (v7 : Int32) (v8 : Int32) (s0 : Int32) (hl : lv_has ls 11 [(0, .ref (oX O + 64)), (1, .int v1), (2, .int v2), (3, .int v3), (4, .int v4), (5, .int v5), (6, .int v6), (7, .int v7), (8, .int v8)]) (hR : x_R O K h H) (hS : va_S (oA O) s.heap H locs) (hf : f_X12_per_127 k79 (oX O) h v1 v2 v3 v4 v5 v6 v7 v8 s0 = some (r, h')) : W p l e (x_rm 6 151) s m args below meth c H locs 0 0 (MQ below (x_Qc O K h' (some (.int r))) args s 0 0 (oA O)) (F0 m 127 ls [.int s0]) := by
  have hx := C.1
  have hb := C.2.1
  rw [f_X12_per_127] at hf
  refine lv_istore (lv' := [(10, _), (0, _), (1, _), (2, _), (3, _), (4, _), (5, _), (6, _), (7, _), (8, _)]) hx hb dX12_per_127 hl (Nat.le_of_ble_eq_true rfl) rfl (fun ls hl => ?_)
  refine lv_iload hx hb dX12_per_129 (lv_at hl 0 rfl) ?_
  refine lv_iload hx hb dX12_per_131 (lv_at hl 8 rfl) ?_
  have kM12 : ∀ (ls : Array Slot) (H : Heap) (locs : List Loc), lv_has ls 11 [(0, .ref (oX O + 64)), (1, .int v1), (2, .int v2), (3, .int v3), (4, .int v4), (5, .int v5), (6, .int (if v7 < s0 then v8 else v6)), (7, .int (if v7 < s0 then s0 else v7)), (8, .int v8)] → x_R O K h H → va_S (oA O) s.heap H locs → W p l e (x_rm 6 151) s m args below meth c H locs 0 0 (MQ below (x_Qc O K h' (some (.int r))) args s 0 0 (oA O)) (F0 m 147 ls []) := by
    intro ls H locs hl hR hS
    refine lv_iinc (k := 8) (v := _ + 1) (lv' := [(8, _), (0, _), (1, _), (2, _), (3, _), (4, _), (5, _), (6, _), (7, _)]) hx hb dX12_per_147 hl rfl (x_inc 1 1 rfl _) (Nat.le_of_ble_eq_true rfl) rfl (fun ls hl => ?_)
    refine lv_goto (tgt := 79) hx hb dX12_per_150 rfl ?_
    exact hk79 ls _ _ h _ _ _ _ _ _ _ _  (lv_sub hl [1, 2, 3, 4, 5, 6, 7, 8, 0] rfl) hR hS hf
  refine lv_icmp_gt (tgt := 139) hx hb dX12_per_133 rfl (fun hc => ?_) (fun hc => ?_)
  · try simp only [if_pos hc] at kM12
    refine lv_iload hx hb dX12_per_139 (lv_at hl 9 rfl) ?_
    refine lv_istore (lv' := [(6, _), (10, _), (0, _), (1, _), (2, _), (3, _), (4, _), (5, _), (7, _), (8, _)]) hx hb dX12_per_141 hl (Nat.le_of_ble_eq_true rfl) rfl (fun ls hl => ?_)
    refine lv_iload hx hb dX12_per_143 (lv_at hl 1 rfl) ?_
    refine lv_istore (lv' := [(7, _), (6, _), (10, _), (0, _), (1, _), (2, _), (3, _), (4, _), (5, _), (8, _)]) hx hb dX12_per_145 hl (Nat.le_of_ble_eq_true rfl) rfl (fun ls hl => ?_)
    exact kM12 ls _ _ (lv_sub hl [3, 4, 5, 6, 7, 8, 1, 0, 9] rfl) hR hS
  · try simp only [if_neg hc] at kM12
    refine lv_goto (tgt := 147) hx hb dX12_per_136 rfl ?_
    exact kM12 ls _ _ (lv_sub hl [1, 2, 3, 4, 5, 6, 7, 8, 9] rfl) hR hS
set_option maxRecDepth 20000 in
theorem B_X12_per_79 {p : Program} {l : Launch} {e : Env} {s : State} {m : MethodId} {args : Array Value} {below : List Frame} {meth : Method} {c : Code} {O : XO} {K : XK} {r : Int32} {h' : XH}   (C : x_C p s m args meth c O cX12_per 11 RX12 (some .int))   : ∀ (n : Nat) (ls : Array Slot) (H : Heap) (locs : List Loc) (h : XH) (v1 : Int32) (v2 : Int32) (v3 : Int32) (v4 : Int32) (v5 : Int32) (v6 : Int32) (v7 : Int32) (v8 : Int32) (hl : lv_has ls 11 [(0, .ref (oX O + 64)), (1, .int v1), (2, .int v2), (3, .int v3), (4, .int v4), (5, .int v5), (6, .int v6), (7, .int v7), (8, .int v8)]) (hR : x_R O K h H) (hS : va_S (oA O) s.heap H locs) (hf : f_X12_per_79 (oX O) n h v1 v2 v3 v4 v5 v6 v7 v8 = some (r, h')), W p l e (x_rm 6 151) s m args below meth c H locs 0 0 (MQ below (x_Qc O K h' (some (.int r))) args s 0 0 (oA O)) (F0 m 79 ls []) := by
  have hx := C.1
  have hb := C.2.1
  intro n
  induction n with
  | zero =>
    intro ls H locs h v1 v2 v3 v4 v5 v6 v7 v8 hl hR hS hf
    rw [f_X12_per_79] at hf
    cases hf
  | succ n ih =>
    intro ls H locs h v1 v2 v3 v4 v5 v6 v7 v8 hl hR hS hf
    rw [f_X12_per_79] at hf
    refine lv_iload hx hb dX12_per_79 (lv_at hl 8 rfl) ?_
    refine lv_iconst (v := 3) hx hb dX12_per_81 rfl ?_
    refine lv_icmp_gt (tgt := 153) hx hb dX12_per_82 rfl (fun hc => ?_) (fun hc => ?_)
    · have hf := x_ip hc hf
      refine lv_iload hx hb dX12_per_153 (lv_at hl 5 rfl) ?_
      have kM6 : ∀ (ls : Array Slot) (H : Heap) (locs : List Loc), lv_has ls 11 [] → x_R O K h H → va_S (oA O) s.heap H locs → W p l e (x_rm 6 151) s m args below meth c H locs 0 0 (MQ below (x_Qc O K h' (some (.int r))) args s 0 0 (oA O)) (F0 m 165 ls [.int (if v5 = 0 then v6 else v7)]) := by
        intro ls H locs hl hR hS
        cases hf
        exact x_iret C hR hS dX12_per_165
      refine lv_if_eq (tgt := 163) hx hb dX12_per_155 rfl (fun hc => ?_) (fun hc => ?_)
      · try simp only [if_pos hc] at kM6
        refine lv_iload hx hb dX12_per_163 (lv_at hl 6 rfl) ?_
        exact kM6 ls _ _ (lv_sub hl [] rfl) hR hS
      · try simp only [if_neg hc] at kM6
        refine lv_iload hx hb dX12_per_158 (lv_at hl 7 rfl) ?_
        refine lv_goto (tgt := 165) hx hb dX12_per_160 rfl ?_
        exact kM6 ls _ _ (lv_sub hl [] rfl) hR hS
    · have hf := x_in hc hf
      refine lv_bipush (v := 60) hx hb dX12_per_85 rfl ?_
      refine lv_iload hx hb dX12_per_87 (lv_at hl 4 rfl) ?_
      refine lv_aload_n hx hb dX12_per_89 rfl (lv_at hl 0 rfl) ?_
      refine lv_iload_n hx hb dX12_per_90 rfl (lv_at hl 2 rfl) ?_
      refine lv_iconst (v := 2) hx hb dX12_per_91 rfl ?_
      obtain ⟨v_7, ev_7, hf⟩ := x_bd hf
      refine x_cVi2 C hR hS (S_X12_of  ev_7) (x_k hR 64 rfl) (by decide) rfl mf_X12_of tw_1806 (Nat.le_of_ble_eq_true rfl) (Nat.le_of_ble_eq_true rfl) hl.1 (Nat.le_of_ble_eq_true rfl) dX12_per_92 ⟨Nat.le_refl _, Nat.le_refl _⟩ (fun H locs hR hS => ?_)
      refine lv_iload hx hb dX12_per_95 (lv_at hl 8 rfl) ?_
      obtain ⟨v_8, ev_8, hf⟩ := x_bd hf
      refine x_cSi2 C hR hS (S_X12_placesFor  ev_8) mf_X12_placesFor tw_1825 (Nat.le_of_ble_eq_true rfl) (Nat.le_of_ble_eq_true rfl) hl.1 (Nat.le_of_ble_eq_true rfl) dX12_per_97 ⟨Nat.le_refl _, Nat.le_refl _⟩ (fun H locs hR hS => ?_)
      obtain ⟨g9, hf⟩ := x_gn hf
      refine lv_idiv hx hb dX12_per_100 g9 ?_
      refine x_cSi2 C hR hS (S_J9_min_7cf53  rfl) mf_J9_min_7cf53 tw_1901 (Nat.le_of_ble_eq_true rfl) (Nat.le_of_ble_eq_true rfl) hl.1 (Nat.le_of_ble_eq_true rfl) dX12_per_101 ⟨Nat.le_refl _, Nat.le_refl _⟩ (fun H locs hR hS => ?_)
      obtain ⟨t10, et10, hf⟩ := x_lt hf
      refine x_nmi et10 ?_
      refine lv_istore (lv' := [(9, _), (0, _), (1, _), (2, _), (3, _), (4, _), (5, _), (6, _), (7, _), (8, _)]) hx hb dX12_per_104 hl (Nat.le_of_ble_eq_true rfl) rfl (fun ls hl => ?_)
      refine lv_iload hx hb dX12_per_106 (lv_at hl 0 rfl) ?_
      refine lv_iconst (v := 1) hx hb dX12_per_108 rfl ?_
      refine lv_icmp_ge (tgt := 116) hx hb dX12_per_109 rfl (fun hc => ?_) (fun hc => ?_)
      · have hf := x_ip hc hf
        refine lv_aload_n hx hb dX12_per_116 rfl (lv_at hl 1 rfl) ?_
        refine lv_iload_n hx hb dX12_per_117 rfl (lv_at hl 2 rfl) ?_
        refine lv_iload_n hx hb dX12_per_118 rfl (lv_at hl 3 rfl) ?_
        refine lv_iload_n hx hb dX12_per_119 rfl (lv_at hl 4 rfl) ?_
        refine lv_iload hx hb dX12_per_120 (lv_at hl 9 rfl) ?_
        refine lv_iload hx hb dX12_per_122 (lv_at hl 0 rfl) ?_
        obtain ⟨q11, eq11, hf⟩ := x_bd hf
        refine x_cVi5 C hR hS (S_X12_awaitedAt  eq11) (x_k hR 64 rfl) (by decide) rfl mf_X12_awaitedAt tw_2049 (Nat.le_of_ble_eq_true rfl) (Nat.le_of_ble_eq_true rfl) hl.1 (Nat.le_of_ble_eq_true rfl) dX12_per_124 ⟨Nat.le_refl _, Nat.le_refl _⟩ (fun H locs hR hS => ?_)
        exact B_X12_per_127  C ih  ls _ _ q11.2 _ _ _ _ _ _ _ _ _  (lv_sub hl [1, 2, 3, 4, 5, 6, 7, 8, 9] rfl) hR hS hf
      · have hf := x_in hc hf
        refine lv_iconst (v := (-1)) hx hb dX12_per_112 rfl ?_
        refine lv_goto (tgt := 127) hx hb dX12_per_113 rfl ?_
        exact B_X12_per_127  C ih  ls _ _ h _ _ _ _ _ _ _ _ _  (lv_sub hl [1, 2, 3, 4, 5, 6, 7, 8, 9] rfl) hR hS hf
set_option maxRecDepth 20000 in
theorem B_X12_per_36 {p : Program} {l : Launch} {e : Env} {s : State} {m : MethodId} {args : Array Value} {below : List Frame} {meth : Method} {c : Code} {O : XO} {K : XK} {r : Int32} {h' : XH}   (C : x_C p s m args meth c O cX12_per 11 RX12 (some .int))   (ls : Array Slot) (H : Heap) (locs : List Loc) (h : XH) (v1 : Int32) (v2 : Int32) (v3 : Int32) (v4 : Int32) (v5 : Int32) (s1 : Int32) (hl : lv_has ls 11 [(0, .ref (oX O + 64)), (1, .int v1), (2, .int v2), (3, .int v3), (4, .int v4), (5, .int v5)]) (hR : x_R O K h H) (hS : va_S (oA O) s.heap H locs) (hf : f_X12_per_36 (oX O) h v1 v2 v3 v4 v5 s1 = some (r, h')) : W p l e (x_rm 6 151) s m args below meth c H locs 0 0 (MQ below (x_Qc O K h' (some (.int r))) args s 0 0 (oA O)) (F0 m 36 ls [.int s1, .ref (oX O + 64)]) := by
  have hx := C.1
  have hb := C.2.1
  rw [f_X12_per_36] at hf
  refine lv_iconst (v := 1) hx hb dX12_per_36 rfl ?_
  obtain ⟨q3, eq3, hf⟩ := x_bd hf
  refine x_cVi2 C hR hS (S_X12_throwsIf  eq3) (x_k hR 64 rfl) (by decide) rfl mf_X12_throwsIf tw_1741 (Nat.le_of_ble_eq_true rfl) (Nat.le_of_ble_eq_true rfl) hl.1 (Nat.le_of_ble_eq_true rfl) dX12_per_37 ⟨Nat.le_refl _, Nat.le_refl _⟩ (fun H locs hR hS => ?_)
  refine lv_if_ne (tgt := 68) hx hb dX12_per_40 rfl (fun hc => ?_) (fun hc => ?_)
  · have hf := x_in hc hf
    exact B_X12_per_68  C   ls _ _ q3.2  (lv_sub hl [] rfl) hR hS hf
  · have hf := x_ip hc hf
    refine lv_aload_n hx hb dX12_per_43 rfl (lv_at hl 0 rfl) ?_
    refine lv_iload hx hb dX12_per_44 (lv_at hl 4 rfl) ?_
    refine lv_iconst (v := 1) hx hb dX12_per_46 rfl ?_
    refine lv_sipush (v := 9999) hx hb dX12_per_47 rfl ?_
    refine x_cSi3 C hR hS (S_X12_in  rfl) mf_X12_in tw_1756 (Nat.le_of_ble_eq_true rfl) (Nat.le_of_ble_eq_true rfl) hl.1 (Nat.le_of_ble_eq_true rfl) dX12_per_50 ⟨Nat.le_refl _, Nat.le_refl _⟩ (fun H locs hR hS => ?_)
    have kM4 : ∀ (ls : Array Slot) (H : Heap) (locs : List Loc), lv_has ls 11 [(0, .ref (oX O + 64)), (1, .int v1), (2, .int v2), (3, .int v3), (4, .int v4), (5, .int v5)] → x_R O K q3.2 H → va_S (oA O) s.heap H locs → W p l e (x_rm 6 151) s m args below meth c H locs 0 0 (MQ below (x_Qc O K h' (some (.int r))) args s 0 0 (oA O)) (F0 m 61 ls [.int (if (f_X12_in q3.2 v4 1 9999) = 0 then 1 else 0), .ref (oX O + 64)]) := by
      intro ls H locs hl hR hS
      refine lv_iconst (v := 2) hx hb dX12_per_61 rfl ?_
      obtain ⟨q5, eq5, hf⟩ := x_bd hf
      refine x_cVi2 C hR hS (S_X12_throwsIf  eq5) (x_k hR 64 rfl) (by decide) rfl mf_X12_throwsIf tw_1741 (Nat.le_of_ble_eq_true rfl) (Nat.le_of_ble_eq_true rfl) hl.1 (Nat.le_of_ble_eq_true rfl) dX12_per_62 ⟨Nat.le_refl _, Nat.le_refl _⟩ (fun H locs hR hS => ?_)
      refine lv_if_eq (tgt := 70) hx hb dX12_per_65 rfl (fun hc => ?_) (fun hc => ?_)
      · have hf := x_ip hc hf
        refine lv_iconst (v := (-1)) hx hb dX12_per_70 rfl ?_
        refine lv_istore (lv' := [(6, _), (0, _), (1, _), (2, _), (3, _), (4, _), (5, _)]) hx hb dX12_per_71 hl (Nat.le_of_ble_eq_true rfl) rfl (fun ls hl => ?_)
        refine lv_iconst (v := (-1)) hx hb dX12_per_73 rfl ?_
        refine lv_istore (lv' := [(7, _), (6, _), (0, _), (1, _), (2, _), (3, _), (4, _), (5, _)]) hx hb dX12_per_74 hl (Nat.le_of_ble_eq_true rfl) rfl (fun ls hl => ?_)
        refine lv_iconst (v := 1) hx hb dX12_per_76 rfl ?_
        refine lv_istore (lv' := [(8, _), (7, _), (6, _), (0, _), (1, _), (2, _), (3, _), (4, _), (5, _)]) hx hb dX12_per_77 hl (Nat.le_of_ble_eq_true rfl) rfl (fun ls hl => ?_)
        exact B_X12_per_79  C  x_FU ls _ _ q5.2 _ _ _ _ _ _ _ _  (lv_sub hl [3, 4, 5, 6, 7, 8, 2, 1, 0] rfl) hR hS hf
      · have hf := x_in hc hf
        exact B_X12_per_68  C   ls _ _ q5.2  (lv_sub hl [] rfl) hR hS hf
    refine lv_if_ne (tgt := 60) hx hb dX12_per_53 rfl (fun hc => ?_) (fun hc => ?_)
    · try simp only [if_neg hc] at kM4
      refine lv_iconst (v := 0) hx hb dX12_per_60 rfl ?_
      exact kM4 ls _ _ (lv_sub hl [0, 1, 2, 3, 4, 5] rfl) hR hS
    · try simp only [if_pos hc] at kM4
      refine lv_iconst (v := 1) hx hb dX12_per_56 rfl ?_
      refine lv_goto (tgt := 61) hx hb dX12_per_57 rfl ?_
      exact kM4 ls _ _ (lv_sub hl [0, 1, 2, 3, 4, 5] rfl) hR hS
set_option maxRecDepth 20000 in
theorem B_X12_per_31 {p : Program} {l : Launch} {e : Env} {s : State} {m : MethodId} {args : Array Value} {below : List Frame} {meth : Method} {c : Code} {O : XO} {K : XK} {r : Int32} {h' : XH}   (C : x_C p s m args meth c O cX12_per 11 RX12 (some .int))   (ls : Array Slot) (H : Heap) (locs : List Loc) (h : XH) (v1 : Int32) (v2 : Int32) (v3 : Int32) (v4 : Int32) (v5 : Int32) (hl : lv_has ls 11 [(0, .ref (oX O + 64)), (1, .int v1), (2, .int v2), (3, .int v3), (4, .int v4), (5, .int v5)]) (hR : x_R O K h H) (hS : va_S (oA O) s.heap H locs) (hf : f_X12_per_31 (oX O) h v1 v2 v3 v4 v5 = some (r, h')) : W p l e (x_rm 6 151) s m args below meth c H locs 0 0 (MQ below (x_Qc O K h' (some (.int r))) args s 0 0 (oA O)) (F0 m 31 ls [.ref (oX O + 64)]) := by
  have hx := C.1
  have hb := C.2.1
  rw [f_X12_per_31] at hf
  refine lv_iconst (v := 1) hx hb dX12_per_31 rfl ?_
  refine lv_goto (tgt := 36) hx hb dX12_per_32 rfl ?_
  exact B_X12_per_36  C   ls _ _ h _ _ _ _ _ _  (lv_sub hl [0, 1, 2, 3, 4, 5] rfl) hR hS hf
set_option maxRecDepth 20000 in
theorem S_X12_per {l : Launch} {O : XO} {K : XK} {h : XH} {v1 : Int32} {v2 : Int32} {v3 : Int32} {v4 : Int32} {v5 : Int32}  {r : Int32} {h' : XH}  (hf : f_X12_per (oX O) h v1 v2 v3 v4 v5 = some (r, h')) : x_M l O K yX12_per cX12_per 11 (some .int) 6 151 h [.ref (oX O + 64), .int v1, .int v2, .int v3, .int v4, .int v5] (some (.int r)) h' := by
  refine x_enter (by decide) (Nat.le_of_ble_eq_true rfl) (fun p e s m args below meth c C hR ls hl => ?_)
  have hS : va_S (oA O) s.heap s.heap [] := va_S.rf
  have hx := C.1
  have hb := C.2.1
  have hl : lv_has ls 11 [(0, .ref (oX O + 64)), (1, .int v1), (2, .int v2), (3, .int v3), (4, .int v4), (5, .int v5)] := hl
  rw [f_X12_per] at hf
  refine lv_aload_n hx hb dX12_per_0 rfl (lv_at hl 0 rfl) ?_
  refine lv_iconst (v := 0) hx hb dX12_per_1 rfl ?_
  obtain ⟨h1, eh1, hf⟩ := x_lt hf
  refine pf_12_0 C hR hS (x_k hR 64 rfl) tw_1543 dX12_per_2 (fun H locs hR hS => ?_)
  rw [← eh1] at hR
  refine lv_aload_n hx hb dX12_per_5 rfl (lv_at hl 0 rfl) ?_
  refine lv_aload_n hx hb dX12_per_6 rfl (lv_at hl 0 rfl) ?_
  refine lv_iload_n hx hb dX12_per_7 rfl (lv_at hl 1 rfl) ?_
  obtain ⟨v_2, ev_2, hf⟩ := x_bd hf
  refine x_cVi1 C hR hS (S_X12_noLaw  ev_2) (x_k hR 64 rfl) (by decide) rfl mf_X12_noLaw tw_1881 (Nat.le_of_ble_eq_true rfl) (Nat.le_of_ble_eq_true rfl) hl.1 (Nat.le_of_ble_eq_true rfl) dX12_per_8 ⟨Nat.le_refl _, Nat.le_refl _⟩ (fun H locs hR hS => ?_)
  refine lv_if_ne (tgt := 31) hx hb dX12_per_11 rfl (fun hc => ?_) (fun hc => ?_)
  · have hf := x_in hc hf
    exact B_X12_per_31  C   ls _ _ h1 _ _ _ _ _  (lv_sub hl [0, 1, 2, 3, 4, 5] rfl) hR hS hf
  · have hf := x_ip hc hf
    refine lv_aload_n hx hb dX12_per_14 rfl (lv_at hl 0 rfl) ?_
    refine lv_iload_n hx hb dX12_per_15 rfl (lv_at hl 2 rfl) ?_
    obtain ⟨v_13, ev_13, hf⟩ := x_bd hf
    refine x_cVi1 C hR hS (S_X12_noPack  ev_13) (x_k hR 64 rfl) (by decide) rfl mf_X12_noPack tw_1802 (Nat.le_of_ble_eq_true rfl) (Nat.le_of_ble_eq_true rfl) hl.1 (Nat.le_of_ble_eq_true rfl) dX12_per_16 ⟨Nat.le_refl _, Nat.le_refl _⟩ (fun H locs hR hS => ?_)
    refine lv_if_ne (tgt := 31) hx hb dX12_per_19 rfl (fun hc => ?_) (fun hc => ?_)
    · have hf := x_in hc hf
      exact B_X12_per_31  C   ls _ _ h1 _ _ _ _ _  (lv_sub hl [0, 1, 2, 3, 4, 5] rfl) hR hS hf
    · have hf := x_ip hc hf
      refine lv_aload_n hx hb dX12_per_22 rfl (lv_at hl 0 rfl) ?_
      refine lv_iload_n hx hb dX12_per_23 rfl (lv_at hl 3 rfl) ?_
      refine lv_iconst (v := 0) hx hb dX12_per_24 rfl ?_
      obtain ⟨v_14, ev_14, hf⟩ := x_bd hf
      refine x_cVi2 C hR hS (S_X12_none  ev_14) (x_k hR 64 rfl) (by decide) rfl mf_X12_none tw_1778 (Nat.le_of_ble_eq_true rfl) (Nat.le_of_ble_eq_true rfl) hl.1 (Nat.le_of_ble_eq_true rfl) dX12_per_25 ⟨Nat.le_refl _, Nat.le_refl _⟩ (fun H locs hR hS => ?_)
      have kM15 : ∀ (ls : Array Slot) (H : Heap) (locs : List Loc), lv_has ls 11 [(0, .ref (oX O + 64)), (1, .int v1), (2, .int v2), (3, .int v3), (4, .int v4), (5, .int v5)] → x_R O K h1 H → va_S (oA O) s.heap H locs → W p l e (x_rm 6 151) s m args below meth c H locs 0 0 (MQ below (x_Qc O K h' (some (.int r))) args s 0 0 (oA O)) (F0 m 36 ls [.int (if v_14 = 0 then 0 else 1), .ref (oX O + 64)]) := by
        intro ls H locs hl hR hS
        refine lv_iconst (v := 1) hx hb dX12_per_36 rfl ?_
        obtain ⟨q16, eq16, hf⟩ := x_bd hf
        refine x_cVi2 C hR hS (S_X12_throwsIf  eq16) (x_k hR 64 rfl) (by decide) rfl mf_X12_throwsIf tw_1741 (Nat.le_of_ble_eq_true rfl) (Nat.le_of_ble_eq_true rfl) hl.1 (Nat.le_of_ble_eq_true rfl) dX12_per_37 ⟨Nat.le_refl _, Nat.le_refl _⟩ (fun H locs hR hS => ?_)
        refine lv_if_ne (tgt := 68) hx hb dX12_per_40 rfl (fun hc => ?_) (fun hc => ?_)
        · have hf := x_in hc hf
          exact B_X12_per_68  C   ls _ _ q16.2  (lv_sub hl [] rfl) hR hS hf
        · have hf := x_ip hc hf
          refine lv_aload_n hx hb dX12_per_43 rfl (lv_at hl 0 rfl) ?_
          refine lv_iload hx hb dX12_per_44 (lv_at hl 4 rfl) ?_
          refine lv_iconst (v := 1) hx hb dX12_per_46 rfl ?_
          refine lv_sipush (v := 9999) hx hb dX12_per_47 rfl ?_
          refine x_cSi3 C hR hS (S_X12_in  rfl) mf_X12_in tw_1756 (Nat.le_of_ble_eq_true rfl) (Nat.le_of_ble_eq_true rfl) hl.1 (Nat.le_of_ble_eq_true rfl) dX12_per_50 ⟨Nat.le_refl _, Nat.le_refl _⟩ (fun H locs hR hS => ?_)
          have kM17 : ∀ (ls : Array Slot) (H : Heap) (locs : List Loc), lv_has ls 11 [(0, .ref (oX O + 64)), (1, .int v1), (2, .int v2), (3, .int v3), (4, .int v4), (5, .int v5)] → x_R O K q16.2 H → va_S (oA O) s.heap H locs → W p l e (x_rm 6 151) s m args below meth c H locs 0 0 (MQ below (x_Qc O K h' (some (.int r))) args s 0 0 (oA O)) (F0 m 61 ls [.int (if (f_X12_in q16.2 v4 1 9999) = 0 then 1 else 0), .ref (oX O + 64)]) := by
            intro ls H locs hl hR hS
            refine lv_iconst (v := 2) hx hb dX12_per_61 rfl ?_
            obtain ⟨q18, eq18, hf⟩ := x_bd hf
            refine x_cVi2 C hR hS (S_X12_throwsIf  eq18) (x_k hR 64 rfl) (by decide) rfl mf_X12_throwsIf tw_1741 (Nat.le_of_ble_eq_true rfl) (Nat.le_of_ble_eq_true rfl) hl.1 (Nat.le_of_ble_eq_true rfl) dX12_per_62 ⟨Nat.le_refl _, Nat.le_refl _⟩ (fun H locs hR hS => ?_)
            refine lv_if_eq (tgt := 70) hx hb dX12_per_65 rfl (fun hc => ?_) (fun hc => ?_)
            · have hf := x_ip hc hf
              refine lv_iconst (v := (-1)) hx hb dX12_per_70 rfl ?_
              refine lv_istore (lv' := [(6, _), (0, _), (1, _), (2, _), (3, _), (4, _), (5, _)]) hx hb dX12_per_71 hl (Nat.le_of_ble_eq_true rfl) rfl (fun ls hl => ?_)
              refine lv_iconst (v := (-1)) hx hb dX12_per_73 rfl ?_
              refine lv_istore (lv' := [(7, _), (6, _), (0, _), (1, _), (2, _), (3, _), (4, _), (5, _)]) hx hb dX12_per_74 hl (Nat.le_of_ble_eq_true rfl) rfl (fun ls hl => ?_)
              refine lv_iconst (v := 1) hx hb dX12_per_76 rfl ?_
              refine lv_istore (lv' := [(8, _), (7, _), (6, _), (0, _), (1, _), (2, _), (3, _), (4, _), (5, _)]) hx hb dX12_per_77 hl (Nat.le_of_ble_eq_true rfl) rfl (fun ls hl => ?_)
              exact B_X12_per_79  C  x_FU ls _ _ q18.2 _ _ _ _ _ _ _ _  (lv_sub hl [3, 4, 5, 6, 7, 8, 2, 1, 0] rfl) hR hS hf
            · have hf := x_in hc hf
              exact B_X12_per_68  C   ls _ _ q18.2  (lv_sub hl [] rfl) hR hS hf
          refine lv_if_ne (tgt := 60) hx hb dX12_per_53 rfl (fun hc => ?_) (fun hc => ?_)
          · try simp only [if_neg hc] at kM17
            refine lv_iconst (v := 0) hx hb dX12_per_60 rfl ?_
            exact kM17 ls _ _ (lv_sub hl [0, 1, 2, 3, 4, 5] rfl) hR hS
          · try simp only [if_pos hc] at kM17
            refine lv_iconst (v := 1) hx hb dX12_per_56 rfl ?_
            refine lv_goto (tgt := 61) hx hb dX12_per_57 rfl ?_
            exact kM17 ls _ _ (lv_sub hl [0, 1, 2, 3, 4, 5] rfl) hR hS
      refine lv_if_eq (tgt := 35) hx hb dX12_per_28 rfl (fun hc => ?_) (fun hc => ?_)
      · try simp only [if_pos hc] at kM15
        refine lv_iconst (v := 0) hx hb dX12_per_35 rfl ?_
        exact kM15 ls _ _ (lv_sub hl [0, 1, 2, 3, 4, 5] rfl) hR hS
      · try simp only [if_neg hc] at kM15
        refine lv_iconst (v := 1) hx hb dX12_per_31 rfl ?_
        refine lv_goto (tgt := 36) hx hb dX12_per_32 rfl ?_
        exact kM15 ls _ _ (lv_sub hl [0, 1, 2, 3, 4, 5] rfl) hR hS
