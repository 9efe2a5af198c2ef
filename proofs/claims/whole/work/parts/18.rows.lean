/-- an int of the script -/
theorem x_sld {p : Program} {l : Launch} {e : Env} {R : Room} {s : State} {m : MethodId} {args : Array Value} {below : List Frame} {meth : Method} {c : Code} {H : Heap} {locs : List Loc} {cells slots : Nat} {Q : State → Prop} {O : XO} {cc : ByteArray} {nL : Nat} {own : String} {ret : Option FieldType} {pc : Nat} {ls : Array Slot} {rest : List Value} (C : x_C p s m args meth c O cc nL own ret) {b L i k : Nat} {xs : Nat → Int32} {kv a : Int32} (hX : va_X b L xs s s.heap) (hbl : b < s.heap.size) (hbA : ¬ oA O b) (hS : va_S (oA O) s.heap H locs) (hk : kv = nI k) (hi : i + k < L) (hL : L ≤ 3072) (ha : xs (i + k) = a) (hd : decode cc pc = .ok (.iaload, 1))
    (kk : W p l e R s m args below meth c H locs cells slots Q (F0 m (pc + 1) ls (.int a :: rest))) : W p l e R s m args below meth c H locs cells slots Q (F0 m pc ls (.int (nI i + kv) :: .ref b :: rest)) := by
  subst hk
  rw [nI_add]
  refine va_sld C.1 C.2.1 hX hbl hbA hS (nI_in hi (by omega)) hd ?_
  rw [nI_clamp (by omega), ha]
  exact kk
def f_row0 (x : Nat) (h : XH) (a1 : Int32) (a2 : Int32) (a3 : Int32) (a4 : Int32) (a5 : Int32) : Option (XH) := Option.bind (f_X11_feed x h a1 a2 a3 a4 a5) (fun q1 => Option.bind (f_X12_feed x q1.2 a1 a2 a3 a4 a5) (fun q2 => if q1.1 = q2.1 then some q2.2 else none))
set_option maxRecDepth 20000 in
theorem B_row0 {p : Program} {l : Launch} {e : Env} {s : State} {m : MethodId} {args : Array Value} {below : List Frame} {meth : Method} {c : Code} {O : XO} {K : XK} {h h' : XH} {b L i cells slots : Nat} {xs : Nat → Int32} {Q : State → Prop} {a1 : Int32} {a2 : Int32} {a3 : Int32} {a4 : Int32} {a5 : Int32} (C : x_C p s m args meth c O cL_law_ 8 RL (some .boolean)) (hst : l.stackTraces = false) (hX : va_X b L xs s s.heap) (hbl : b < s.heap.size) (hbA : ¬ oA O b) (hL : L ≤ 3072) (hi : i + 6 ≤ L) (ha1 : xs (i + 1) = a1) (ha2 : xs (i + 2) = a2) (ha3 : xs (i + 3) = a3) (ha4 : xs (i + 4) = a4) (ha5 : xs (i + 5) = a5) (hcl : cells + 40 ≤ room_1.cells) (hsl : slots + 900 ≤ room_1.slots) (ls : Array Slot) (H : Heap) (locs : List Loc) (hl : lv_has ls 8 [(0, .ref b), (1, .ref (oX O)), (2, .ref (oX O + 64)), (3, .ref (oX O + 76)), (4, .int (nI i))]) (hR : x_R O K h H) (hS : va_S (oA O) s.heap H locs) (hf : f_row0 (oX O) h a1 a2 a3 a4 a5 = some h') (kx : ∀ (ls : Array Slot) (H : Heap) (locs : List Loc), lv_has ls 8 [(0, .ref b), (1, .ref (oX O)), (2, .ref (oX O + 64)), (3, .ref (oX O + 76)), (4, .int (nI i))] → x_R O K h' H → va_S (oA O) s.heap H locs → W p l e room_1 s m args below meth c H locs (cells) (slots) Q (F0 m 2934 ls [])) : W p l e room_1 s m args below meth c H locs cells slots Q (F0 m 224 ls []) := by
  have hx := C.1
  have hb := C.2.1
  rw [f_row0] at hf
  refine lv_aload_n hx hb dL_law__224 rfl (lv_at hl 1 rfl) ?_
  refine lv_aload_n hx hb dL_law__225 rfl (lv_at hl 0 rfl) ?_
  refine lv_iload hx hb dL_law__226 (lv_at hl 4 rfl) ?_
  refine lv_iconst (v := 1) hx hb dL_law__228 rfl ?_
  refine lv_iadd hx hb dL_law__229 ?_
  refine x_sld C hX hbl hbA hS (i := i) (k := 1) rfl (by omega) hL ha1 dL_law__230 ?_
  refine lv_aload_n hx hb dL_law__231 rfl (lv_at hl 0 rfl) ?_
  refine lv_iload hx hb dL_law__232 (lv_at hl 4 rfl) ?_
  refine lv_iconst (v := 2) hx hb dL_law__234 rfl ?_
  refine lv_iadd hx hb dL_law__235 ?_
  refine x_sld C hX hbl hbA hS (i := i) (k := 2) rfl (by omega) hL ha2 dL_law__236 ?_
  refine lv_aload_n hx hb dL_law__237 rfl (lv_at hl 0 rfl) ?_
  refine lv_iload hx hb dL_law__238 (lv_at hl 4 rfl) ?_
  refine lv_iconst (v := 3) hx hb dL_law__240 rfl ?_
  refine lv_iadd hx hb dL_law__241 ?_
  refine x_sld C hX hbl hbA hS (i := i) (k := 3) rfl (by omega) hL ha3 dL_law__242 ?_
  refine lv_aload_n hx hb dL_law__243 rfl (lv_at hl 0 rfl) ?_
  refine lv_iload hx hb dL_law__244 (lv_at hl 4 rfl) ?_
  refine lv_iconst (v := 4) hx hb dL_law__246 rfl ?_
  refine lv_iadd hx hb dL_law__247 ?_
  refine x_sld C hX hbl hbA hS (i := i) (k := 4) rfl (by omega) hL ha4 dL_law__248 ?_
  refine lv_aload_n hx hb dL_law__249 rfl (lv_at hl 0 rfl) ?_
  refine lv_iload hx hb dL_law__250 (lv_at hl 4 rfl) ?_
  refine lv_iconst (v := 5) hx hb dL_law__252 rfl ?_
  refine lv_iadd hx hb dL_law__253 ?_
  refine x_sld C hX hbl hbA hS (i := i) (k := 5) rfl (by omega) hL ha5 dL_law__254 ?_
  obtain ⟨q1, eq1, hf⟩ := x_bd hf
  refine x_cVi5 C hR hS (S_X11_feed  eq1) (x_k hR 0 rfl) (by decide) rfl mf_X11_feed tw_523 (Nat.le_of_ble_eq_true rfl) (Nat.le_of_ble_eq_true rfl) hl.1 (Nat.le_of_ble_eq_true rfl) dL_law__255 ⟨by show cells ≤ room_1.cells; omega, by show slots ≤ room_1.slots; omega⟩ (fun H locs hR hS => ?_)
  refine lv_aload_n hx hb dL_law__258 rfl (lv_at hl 2 rfl) ?_
  refine lv_aload_n hx hb dL_law__259 rfl (lv_at hl 0 rfl) ?_
  refine lv_iload hx hb dL_law__260 (lv_at hl 4 rfl) ?_
  refine lv_iconst (v := 1) hx hb dL_law__262 rfl ?_
  refine lv_iadd hx hb dL_law__263 ?_
  refine x_sld C hX hbl hbA hS (i := i) (k := 1) rfl (by omega) hL ha1 dL_law__264 ?_
  refine lv_aload_n hx hb dL_law__265 rfl (lv_at hl 0 rfl) ?_
  refine lv_iload hx hb dL_law__266 (lv_at hl 4 rfl) ?_
  refine lv_iconst (v := 2) hx hb dL_law__268 rfl ?_
  refine lv_iadd hx hb dL_law__269 ?_
  refine x_sld C hX hbl hbA hS (i := i) (k := 2) rfl (by omega) hL ha2 dL_law__270 ?_
  refine lv_aload_n hx hb dL_law__271 rfl (lv_at hl 0 rfl) ?_
  refine lv_iload hx hb dL_law__272 (lv_at hl 4 rfl) ?_
  refine lv_iconst (v := 3) hx hb dL_law__274 rfl ?_
  refine lv_iadd hx hb dL_law__275 ?_
  refine x_sld C hX hbl hbA hS (i := i) (k := 3) rfl (by omega) hL ha3 dL_law__276 ?_
  refine lv_aload_n hx hb dL_law__277 rfl (lv_at hl 0 rfl) ?_
  refine lv_iload hx hb dL_law__278 (lv_at hl 4 rfl) ?_
  refine lv_iconst (v := 4) hx hb dL_law__280 rfl ?_
  refine lv_iadd hx hb dL_law__281 ?_
  refine x_sld C hX hbl hbA hS (i := i) (k := 4) rfl (by omega) hL ha4 dL_law__282 ?_
  refine lv_aload_n hx hb dL_law__283 rfl (lv_at hl 0 rfl) ?_
  refine lv_iload hx hb dL_law__284 (lv_at hl 4 rfl) ?_
  refine lv_iconst (v := 5) hx hb dL_law__286 rfl ?_
  refine lv_iadd hx hb dL_law__287 ?_
  refine x_sld C hX hbl hbA hS (i := i) (k := 5) rfl (by omega) hL ha5 dL_law__288 ?_
  obtain ⟨q2, eq2, hf⟩ := x_bd hf
  refine x_cVi5 C hR hS (S_X12_feed  eq2) (x_k hR 64 rfl) (by decide) rfl mf_X12_feed tw_1624 (Nat.le_of_ble_eq_true rfl) (Nat.le_of_ble_eq_true rfl) hl.1 (Nat.le_of_ble_eq_true rfl) dL_law__289 ⟨by show cells ≤ room_1.cells; omega, by show slots ≤ room_1.slots; omega⟩ (fun H locs hR hS => ?_)
  refine lv_icmp_eq (tgt := 2934) hx hb dL_law__292 rfl (fun hc => ?_) (fun hc => ?_)
  · have hf := x_ip hc hf
    cases hf
    exact kx ls _ _ (lv_sub hl [0, 1, 2, 3, 4] rfl) hR hS
  · have hf := x_in hc hf
    refine lv_iconst (v := 0) hx hb dL_law__295 rfl ?_
    cases hf
def f_row1 (x : Nat) (h : XH) (a1 : Int32) : Option (XH) := x_let (f_X11_end x h a1) (fun q1 => x_let (f_X12_end x q1.2 a1) (fun q2 => if q1.1 = q2.1 then some q2.2 else none))
set_option maxRecDepth 20000 in
theorem B_row1 {p : Program} {l : Launch} {e : Env} {s : State} {m : MethodId} {args : Array Value} {below : List Frame} {meth : Method} {c : Code} {O : XO} {K : XK} {h h' : XH} {b L i cells slots : Nat} {xs : Nat → Int32} {Q : State → Prop} {a1 : Int32} (C : x_C p s m args meth c O cL_law_ 8 RL (some .boolean)) (hst : l.stackTraces = false) (hX : va_X b L xs s s.heap) (hbl : b < s.heap.size) (hbA : ¬ oA O b) (hL : L ≤ 3072) (hi : i + 6 ≤ L) (ha1 : xs (i + 1) = a1) (hcl : cells + 40 ≤ room_1.cells) (hsl : slots + 900 ≤ room_1.slots) (ls : Array Slot) (H : Heap) (locs : List Loc) (hl : lv_has ls 8 [(0, .ref b), (1, .ref (oX O)), (2, .ref (oX O + 64)), (3, .ref (oX O + 76)), (4, .int (nI i))]) (hR : x_R O K h H) (hS : va_S (oA O) s.heap H locs) (hf : f_row1 (oX O) h a1 = some h') (kx : ∀ (ls : Array Slot) (H : Heap) (locs : List Loc), lv_has ls 8 [(0, .ref b), (1, .ref (oX O)), (2, .ref (oX O + 64)), (3, .ref (oX O + 76)), (4, .int (nI i))] → x_R O K h' H → va_S (oA O) s.heap H locs → W p l e room_1 s m args below meth c H locs (cells) (slots) Q (F0 m 2934 ls [])) : W p l e room_1 s m args below meth c H locs cells slots Q (F0 m 297 ls []) := by
  have hx := C.1
  have hb := C.2.1
  rw [f_row1] at hf
  refine lv_aload_n hx hb dL_law__297 rfl (lv_at hl 1 rfl) ?_
  refine lv_aload_n hx hb dL_law__298 rfl (lv_at hl 0 rfl) ?_
  refine lv_iload hx hb dL_law__299 (lv_at hl 4 rfl) ?_
  refine lv_iconst (v := 1) hx hb dL_law__301 rfl ?_
  refine lv_iadd hx hb dL_law__302 ?_
  refine x_sld C hX hbl hbA hS (i := i) (k := 1) rfl (by omega) hL ha1 dL_law__303 ?_
  obtain ⟨q1, eq1, hf⟩ := x_lt hf
  refine x_cVi1 C hR hS (S_X11_end  eq1.symm) (x_k hR 0 rfl) (by decide) rfl mf_X11_end tw_535 (Nat.le_of_ble_eq_true rfl) (Nat.le_of_ble_eq_true rfl) hl.1 (Nat.le_of_ble_eq_true rfl) dL_law__304 ⟨by show cells ≤ room_1.cells; omega, by show slots ≤ room_1.slots; omega⟩ (fun H locs hR hS => ?_)
  refine lv_aload_n hx hb dL_law__307 rfl (lv_at hl 2 rfl) ?_
  refine lv_aload_n hx hb dL_law__308 rfl (lv_at hl 0 rfl) ?_
  refine lv_iload hx hb dL_law__309 (lv_at hl 4 rfl) ?_
  refine lv_iconst (v := 1) hx hb dL_law__311 rfl ?_
  refine lv_iadd hx hb dL_law__312 ?_
  refine x_sld C hX hbl hbA hS (i := i) (k := 1) rfl (by omega) hL ha1 dL_law__313 ?_
  obtain ⟨q2, eq2, hf⟩ := x_lt hf
  refine x_cVi1 C hR hS (S_X12_end  eq2.symm) (x_k hR 64 rfl) (by decide) rfl mf_X12_end tw_1628 (Nat.le_of_ble_eq_true rfl) (Nat.le_of_ble_eq_true rfl) hl.1 (Nat.le_of_ble_eq_true rfl) dL_law__314 ⟨by show cells ≤ room_1.cells; omega, by show slots ≤ room_1.slots; omega⟩ (fun H locs hR hS => ?_)
  refine lv_icmp_eq (tgt := 2934) hx hb dL_law__317 rfl (fun hc => ?_) (fun hc => ?_)
  · have hf := x_ip hc hf
    cases hf
    exact kx ls _ _ (lv_sub hl [0, 1, 2, 3, 4] rfl) hR hS
  · have hf := x_in hc hf
    refine lv_iconst (v := 0) hx hb dL_law__320 rfl ?_
    cases hf
def f_row2 (K : XK) (x n : Nat) (h : XH) : Option (XK × XH) := Option.bind (f_L_law K x n h) (fun q1 => Option.bind (f_X12_law x q1.2.2) (fun q2 => if (f_X12_thrown x q2.2) = q1.1 then if q1.1 = 0 then if x_b 0 1 = true then if (lg_cmp (q2.2.2.1 (x + 76) (0 : Int32).toNatClampNeg) q2.1.toInt64) = 0 then some (q1.2.1, q2.2) else none else none else some (q1.2.1, q2.2) else none))
set_option maxRecDepth 20000 in
theorem B_row2 {p : Program} {l : Launch} {e : Env} {s : State} {m : MethodId} {args : Array Value} {below : List Frame} {meth : Method} {c : Code} {O : XO} {K K' : XK} {h h' : XH} {b L i cells slots n : Nat} {xs : Nat → Int32} {Q : State → Prop} (C : x_C p s m args meth c O cL_law_ 8 RL (some .boolean)) (hst : l.stackTraces = false) (hA : ∀ q, oX O ≤ q → oA O q) (hX : va_X b L xs s s.heap) (hbl : b < s.heap.size) (hbA : ¬ oA O b) (hL : L ≤ 3072) (hi : i + 6 ≤ L) (hcl : cells + 40 ≤ room_1.cells) (hsl : slots + 900 ≤ room_1.slots) (ls : Array Slot) (H : Heap) (locs : List Loc) (hz : H.size = n) (hl : lv_has ls 8 [(0, .ref b), (1, .ref (oX O)), (2, .ref (oX O + 64)), (3, .ref (oX O + 76)), (4, .int (nI i))]) (hR : x_R O K h H) (hS : va_S (oA O) s.heap H locs) (hf : f_row2 K (oX O) n h = some (K', h')) (kx : ∀ (ls : Array Slot) (H : Heap) (locs : List Loc), lv_has ls 8 [(0, .ref b), (1, .ref (oX O)), (2, .ref (oX O + 64)), (3, .ref (oX O + 76)), (4, .int (nI i))] → x_R O K' h' H → va_S (oA O) s.heap H locs → W p l e room_1 s m args below meth c H locs (cells + 6) (slots + 440) Q (F0 m 2934 ls [])) : W p l e room_1 s m args below meth c H locs cells slots Q (F0 m 322 ls []) := by
  have hx := C.1
  have hb := C.2.1
  rw [f_row2] at hf
  refine lv_aload_n hx hb dL_law__322 rfl (lv_at hl 1 rfl) ?_
  refine lv_aload_n hx hb dL_law__323 rfl (lv_at hl 3 rfl) ?_
  obtain ⟨⟨r1, K1, h1⟩, eq1, hf⟩ := x_bd hf
  refine x_callL C hR hS hz (S_L_law hA hst eq1) lw_L_law tw_619 (Nat.le_of_ble_eq_true rfl) (Nat.le_of_ble_eq_true rfl) (As := [.ref (oX O), .ref (oX O + 76)]) rfl hl.1 (Nat.le_of_ble_eq_true rfl) dL_law__324 ⟨by show cells + 6 ≤ room_1.cells; omega, by show slots + 440 ≤ room_1.slots; omega⟩ rfl (fun H locs hR hS => ?_)
  refine lv_istore (lv' := [(5, _), (0, _), (1, _), (2, _), (3, _), (4, _)]) hx hb dL_law__327 hl (Nat.le_of_ble_eq_true rfl) rfl (fun ls hl => ?_)
  refine lv_aload_n hx hb dL_law__329 rfl (lv_at hl 3 rfl) ?_
  obtain ⟨q2, eq2, hf⟩ := x_bd hf
  refine x_cVi0 C hR hS (S_X12_law  eq2) (x_k hR 64 rfl) (by decide) rfl mf_X12_law tw_1636 (Nat.le_of_ble_eq_true rfl) (Nat.le_of_ble_eq_true rfl) hl.1 (Nat.le_of_ble_eq_true rfl) dL_law__330 ⟨by show cells + 6 ≤ room_1.cells; omega, by show slots + 440 ≤ room_1.slots; omega⟩ (fun H locs hR hS => ?_)
  refine lv_istore (lv' := [(6, _), (5, _), (0, _), (1, _), (2, _), (3, _), (4, _)]) hx hb dL_law__333 hl (Nat.le_of_ble_eq_true rfl) rfl (fun ls hl => ?_)
  refine lv_aload_n hx hb dL_law__335 rfl (lv_at hl 4 rfl) ?_
  refine x_cVi0 C hR hS (S_X12_thrown  rfl) (x_k hR 64 rfl) (by decide) rfl mf_X12_thrown tw_1533 (Nat.le_of_ble_eq_true rfl) (Nat.le_of_ble_eq_true rfl) hl.1 (Nat.le_of_ble_eq_true rfl) dL_law__336 ⟨by show cells + 6 ≤ room_1.cells; omega, by show slots + 440 ≤ room_1.slots; omega⟩ (fun H locs hR hS => ?_)
  refine lv_iload hx hb dL_law__339 (lv_at hl 1 rfl) ?_
  refine lv_icmp_eq (tgt := 346) hx hb dL_law__341 rfl (fun hc => ?_) (fun hc => ?_)
  · have hf := x_ip hc hf
    refine lv_iload hx hb dL_law__346 (lv_at hl 1 rfl) ?_
    refine lv_if_ne (tgt := 363) hx hb dL_law__348 rfl (fun hc => ?_) (fun hc => ?_)
    · have hf := x_in hc hf
      refine lv_goto (tgt := 2934) hx hb dL_law__363 rfl ?_
      cases hf
      exact kx ls _ _ (lv_sub hl [2, 3, 4, 5, 6] rfl) hR hS
    · have hf := x_ip hc hf
      refine lv_aload_n hx hb dL_law__351 rfl (lv_at hl 5 rfl) ?_
      refine lv_iconst (v := 0) hx hb dL_law__352 rfl ?_
      obtain ⟨g3, hf⟩ := x_gd hf
      refine x_lald C hR (x_k1 (x_k hR 76 rfl)) (x_k2 (x_k hR 76 rfl) g3) dL_law__353 ?_
      refine lv_iload hx hb dL_law__354 (lv_at hl 0 rfl) ?_
      refine lv_i2l hx hb dL_law__356 rfl ?_
      refine W.lcmp hx hb dL_law__357 ?_
      refine lv_if_eq (tgt := 363) hx hb dL_law__358 rfl (fun hc => ?_) (fun hc => ?_)
      · have hf := x_ip hc hf
        refine lv_goto (tgt := 2934) hx hb dL_law__363 rfl ?_
        cases hf
        exact kx ls _ _ (lv_sub hl [2, 3, 4, 5, 6] rfl) hR hS
      · have hf := x_in hc hf
        refine lv_iconst (v := 0) hx hb dL_law__361 rfl ?_
        cases hf
  · have hf := x_in hc hf
    refine lv_iconst (v := 0) hx hb dL_law__344 rfl ?_
    cases hf
def f_row3 (K : XK) (x n : Nat) (h : XH) : Option (XK × XH) := Option.bind (f_L_rule K x n h) (fun q1 => Option.bind (f_X12_rule x q1.2.2) (fun q2 => if (f_X12_thrown x q2.2) = q1.1 then if q1.1 = 0 then if x_b 0 1 = true then if (lg_cmp (q2.2.2.1 (x + 76) (0 : Int32).toNatClampNeg) q2.1.toInt64) = 0 then some (q1.2.1, q2.2) else none else none else some (q1.2.1, q2.2) else none))
set_option maxRecDepth 20000 in
theorem B_row3 {p : Program} {l : Launch} {e : Env} {s : State} {m : MethodId} {args : Array Value} {below : List Frame} {meth : Method} {c : Code} {O : XO} {K K' : XK} {h h' : XH} {b L i cells slots n : Nat} {xs : Nat → Int32} {Q : State → Prop} (C : x_C p s m args meth c O cL_law_ 8 RL (some .boolean)) (hst : l.stackTraces = false) (hA : ∀ q, oX O ≤ q → oA O q) (hX : va_X b L xs s s.heap) (hbl : b < s.heap.size) (hbA : ¬ oA O b) (hL : L ≤ 3072) (hi : i + 6 ≤ L) (hcl : cells + 40 ≤ room_1.cells) (hsl : slots + 900 ≤ room_1.slots) (ls : Array Slot) (H : Heap) (locs : List Loc) (hz : H.size = n) (hl : lv_has ls 8 [(0, .ref b), (1, .ref (oX O)), (2, .ref (oX O + 64)), (3, .ref (oX O + 76)), (4, .int (nI i))]) (hR : x_R O K h H) (hS : va_S (oA O) s.heap H locs) (hf : f_row3 K (oX O) n h = some (K', h')) (kx : ∀ (ls : Array Slot) (H : Heap) (locs : List Loc), lv_has ls 8 [(0, .ref b), (1, .ref (oX O)), (2, .ref (oX O + 64)), (3, .ref (oX O + 76)), (4, .int (nI i))] → x_R O K' h' H → va_S (oA O) s.heap H locs → W p l e room_1 s m args below meth c H locs (cells + 6) (slots + 440) Q (F0 m 2934 ls [])) : W p l e room_1 s m args below meth c H locs cells slots Q (F0 m 366 ls []) := by
  have hx := C.1
  have hb := C.2.1
  rw [f_row3] at hf
  refine lv_aload_n hx hb dL_law__366 rfl (lv_at hl 1 rfl) ?_
  refine lv_aload_n hx hb dL_law__367 rfl (lv_at hl 3 rfl) ?_
  obtain ⟨⟨r1, K1, h1⟩, eq1, hf⟩ := x_bd hf
  refine x_callL C hR hS hz (S_L_rule hA hst eq1) lw_L_rule tw_866 (Nat.le_of_ble_eq_true rfl) (Nat.le_of_ble_eq_true rfl) (As := [.ref (oX O), .ref (oX O + 76)]) rfl hl.1 (Nat.le_of_ble_eq_true rfl) dL_law__368 ⟨by show cells + 6 ≤ room_1.cells; omega, by show slots + 440 ≤ room_1.slots; omega⟩ rfl (fun H locs hR hS => ?_)
  refine lv_istore (lv' := [(5, _), (0, _), (1, _), (2, _), (3, _), (4, _)]) hx hb dL_law__371 hl (Nat.le_of_ble_eq_true rfl) rfl (fun ls hl => ?_)
  refine lv_aload_n hx hb dL_law__373 rfl (lv_at hl 3 rfl) ?_
  obtain ⟨q2, eq2, hf⟩ := x_bd hf
  refine x_cVi0 C hR hS (S_X12_rule  eq2) (x_k hR 64 rfl) (by decide) rfl mf_X12_rule tw_1745 (Nat.le_of_ble_eq_true rfl) (Nat.le_of_ble_eq_true rfl) hl.1 (Nat.le_of_ble_eq_true rfl) dL_law__374 ⟨by show cells + 6 ≤ room_1.cells; omega, by show slots + 440 ≤ room_1.slots; omega⟩ (fun H locs hR hS => ?_)
  refine lv_istore (lv' := [(6, _), (5, _), (0, _), (1, _), (2, _), (3, _), (4, _)]) hx hb dL_law__377 hl (Nat.le_of_ble_eq_true rfl) rfl (fun ls hl => ?_)
  refine lv_aload_n hx hb dL_law__379 rfl (lv_at hl 4 rfl) ?_
  refine x_cVi0 C hR hS (S_X12_thrown  rfl) (x_k hR 64 rfl) (by decide) rfl mf_X12_thrown tw_1533 (Nat.le_of_ble_eq_true rfl) (Nat.le_of_ble_eq_true rfl) hl.1 (Nat.le_of_ble_eq_true rfl) dL_law__380 ⟨by show cells + 6 ≤ room_1.cells; omega, by show slots + 440 ≤ room_1.slots; omega⟩ (fun H locs hR hS => ?_)
  refine lv_iload hx hb dL_law__383 (lv_at hl 1 rfl) ?_
  refine lv_icmp_eq (tgt := 390) hx hb dL_law__385 rfl (fun hc => ?_) (fun hc => ?_)
  · have hf := x_ip hc hf
    refine lv_iload hx hb dL_law__390 (lv_at hl 1 rfl) ?_
    refine lv_if_ne (tgt := 407) hx hb dL_law__392 rfl (fun hc => ?_) (fun hc => ?_)
    · have hf := x_in hc hf
      refine lv_goto (tgt := 2934) hx hb dL_law__407 rfl ?_
      cases hf
      exact kx ls _ _ (lv_sub hl [2, 3, 4, 5, 6] rfl) hR hS
    · have hf := x_ip hc hf
      refine lv_aload_n hx hb dL_law__395 rfl (lv_at hl 5 rfl) ?_
      refine lv_iconst (v := 0) hx hb dL_law__396 rfl ?_
      obtain ⟨g3, hf⟩ := x_gd hf
      refine x_lald C hR (x_k1 (x_k hR 76 rfl)) (x_k2 (x_k hR 76 rfl) g3) dL_law__397 ?_
      refine lv_iload hx hb dL_law__398 (lv_at hl 0 rfl) ?_
      refine lv_i2l hx hb dL_law__400 rfl ?_
      refine W.lcmp hx hb dL_law__401 ?_
      refine lv_if_eq (tgt := 407) hx hb dL_law__402 rfl (fun hc => ?_) (fun hc => ?_)
      · have hf := x_ip hc hf
        refine lv_goto (tgt := 2934) hx hb dL_law__407 rfl ?_
        cases hf
        exact kx ls _ _ (lv_sub hl [2, 3, 4, 5, 6] rfl) hR hS
      · have hf := x_in hc hf
        refine lv_iconst (v := 0) hx hb dL_law__405 rfl ?_
        cases hf
  · have hf := x_in hc hf
    refine lv_iconst (v := 0) hx hb dL_law__388 rfl ?_
    cases hf
def f_row4 (x : Nat) (h : XH) : Option (XH) := x_let (f_X12_fault x h) (fun q1 => if (f_X11_fault x h) = q1.1 then some q1.2 else none)
set_option maxRecDepth 20000 in
theorem B_row4 {p : Program} {l : Launch} {e : Env} {s : State} {m : MethodId} {args : Array Value} {below : List Frame} {meth : Method} {c : Code} {O : XO} {K : XK} {h h' : XH} {b L i cells slots : Nat} {xs : Nat → Int32} {Q : State → Prop} (C : x_C p s m args meth c O cL_law_ 8 RL (some .boolean)) (hst : l.stackTraces = false) (hX : va_X b L xs s s.heap) (hbl : b < s.heap.size) (hbA : ¬ oA O b) (hL : L ≤ 3072) (hi : i + 6 ≤ L) (hcl : cells + 40 ≤ room_1.cells) (hsl : slots + 900 ≤ room_1.slots) (ls : Array Slot) (H : Heap) (locs : List Loc) (hl : lv_has ls 8 [(0, .ref b), (1, .ref (oX O)), (2, .ref (oX O + 64)), (3, .ref (oX O + 76)), (4, .int (nI i))]) (hR : x_R O K h H) (hS : va_S (oA O) s.heap H locs) (hf : f_row4 (oX O) h = some h') (kx : ∀ (ls : Array Slot) (H : Heap) (locs : List Loc), lv_has ls 8 [(0, .ref b), (1, .ref (oX O)), (2, .ref (oX O + 64)), (3, .ref (oX O + 76)), (4, .int (nI i))] → x_R O K h' H → va_S (oA O) s.heap H locs → W p l e room_1 s m args below meth c H locs (cells) (slots) Q (F0 m 2934 ls [])) : W p l e room_1 s m args below meth c H locs cells slots Q (F0 m 410 ls []) := by
  have hx := C.1
  have hb := C.2.1
  rw [f_row4] at hf
  refine lv_aload_n hx hb dL_law__410 rfl (lv_at hl 1 rfl) ?_
  refine x_cVi0 C hR hS (S_X11_fault  rfl) (x_k hR 0 rfl) (by decide) rfl mf_X11_fault tw_539 (Nat.le_of_ble_eq_true rfl) (Nat.le_of_ble_eq_true rfl) hl.1 (Nat.le_of_ble_eq_true rfl) dL_law__411 ⟨by show cells ≤ room_1.cells; omega, by show slots ≤ room_1.slots; omega⟩ (fun H locs hR hS => ?_)
  refine lv_aload_n hx hb dL_law__414 rfl (lv_at hl 2 rfl) ?_
  obtain ⟨q1, eq1, hf⟩ := x_lt hf
  refine x_cVi0 C hR hS (S_X12_fault  eq1.symm) (x_k hR 64 rfl) (by decide) rfl mf_X12_fault tw_1632 (Nat.le_of_ble_eq_true rfl) (Nat.le_of_ble_eq_true rfl) hl.1 (Nat.le_of_ble_eq_true rfl) dL_law__415 ⟨by show cells ≤ room_1.cells; omega, by show slots ≤ room_1.slots; omega⟩ (fun H locs hR hS => ?_)
  refine lv_icmp_eq (tgt := 2934) hx hb dL_law__418 rfl (fun hc => ?_) (fun hc => ?_)
  · have hf := x_ip hc hf
    cases hf
    exact kx ls _ _ (lv_sub hl [0, 1, 2, 3, 4] rfl) hR hS
  · have hf := x_in hc hf
    refine lv_iconst (v := 0) hx hb dL_law__421 rfl ?_
    cases hf
def f_row5 (x : Nat) (h : XH) (a1 : Int32) (a2 : Int32) (a3 : Int32) : Option (XH) := Option.bind (f_L_dull x h a1 a2 a3) (fun q1 => Option.bind (f_X12_dull x q1.2 a1 a2 a3) (fun q2 => if (f_X12_thrown x q2.2) = q1.1 then if q1.1 = 0 then if x_b 0 1 = true then if (lg_cmp (q2.2.2.1 (x + 76) (0 : Int32).toNatClampNeg) q2.1.toInt64) = 0 then some q2.2 else none else none else some q2.2 else none))
set_option maxRecDepth 20000 in
theorem B_row5 {p : Program} {l : Launch} {e : Env} {s : State} {m : MethodId} {args : Array Value} {below : List Frame} {meth : Method} {c : Code} {O : XO} {K : XK} {h h' : XH} {b L i cells slots : Nat} {xs : Nat → Int32} {Q : State → Prop} {a1 : Int32} {a2 : Int32} {a3 : Int32} (C : x_C p s m args meth c O cL_law_ 8 RL (some .boolean)) (hst : l.stackTraces = false) (hX : va_X b L xs s s.heap) (hbl : b < s.heap.size) (hbA : ¬ oA O b) (hL : L ≤ 3072) (hi : i + 6 ≤ L) (ha1 : xs (i + 1) = a1) (ha2 : xs (i + 2) = a2) (ha3 : xs (i + 3) = a3) (hcl : cells + 40 ≤ room_1.cells) (hsl : slots + 900 ≤ room_1.slots) (ls : Array Slot) (H : Heap) (locs : List Loc) (hl : lv_has ls 8 [(0, .ref b), (1, .ref (oX O)), (2, .ref (oX O + 64)), (3, .ref (oX O + 76)), (4, .int (nI i))]) (hR : x_R O K h H) (hS : va_S (oA O) s.heap H locs) (hf : f_row5 (oX O) h a1 a2 a3 = some h') (kx : ∀ (ls : Array Slot) (H : Heap) (locs : List Loc), lv_has ls 8 [(0, .ref b), (1, .ref (oX O)), (2, .ref (oX O + 64)), (3, .ref (oX O + 76)), (4, .int (nI i))] → x_R O K h' H → va_S (oA O) s.heap H locs → W p l e room_1 s m args below meth c H locs (cells + 1) (slots + 6) Q (F0 m 2934 ls [])) : W p l e room_1 s m args below meth c H locs cells slots Q (F0 m 423 ls []) := by
  have hx := C.1
  have hb := C.2.1
  rw [f_row5] at hf
  refine lv_aload_n hx hb dL_law__423 rfl (lv_at hl 1 rfl) ?_
  refine lv_aload_n hx hb dL_law__424 rfl (lv_at hl 0 rfl) ?_
  refine lv_iload hx hb dL_law__425 (lv_at hl 4 rfl) ?_
  refine lv_iconst (v := 1) hx hb dL_law__427 rfl ?_
  refine lv_iadd hx hb dL_law__428 ?_
  refine x_sld C hX hbl hbA hS (i := i) (k := 1) rfl (by omega) hL ha1 dL_law__429 ?_
  refine lv_aload_n hx hb dL_law__430 rfl (lv_at hl 0 rfl) ?_
  refine lv_iload hx hb dL_law__431 (lv_at hl 4 rfl) ?_
  refine lv_iconst (v := 2) hx hb dL_law__433 rfl ?_
  refine lv_iadd hx hb dL_law__434 ?_
  refine x_sld C hX hbl hbA hS (i := i) (k := 2) rfl (by omega) hL ha2 dL_law__435 ?_
  refine lv_aload_n hx hb dL_law__436 rfl (lv_at hl 0 rfl) ?_
  refine lv_iload hx hb dL_law__437 (lv_at hl 4 rfl) ?_
  refine lv_iconst (v := 3) hx hb dL_law__439 rfl ?_
  refine lv_iadd hx hb dL_law__440 ?_
  refine x_sld C hX hbl hbA hS (i := i) (k := 3) rfl (by omega) hL ha3 dL_law__441 ?_
  refine lv_aload_n hx hb dL_law__442 rfl (lv_at hl 3 rfl) ?_
  obtain ⟨⟨r1, h1⟩, eq1, hf⟩ := x_bd hf
  refine x_callL C hR hS rfl (S_L_dull hst eq1) lw_L_dull tw_875 (Nat.le_of_ble_eq_true rfl) (Nat.le_of_ble_eq_true rfl) (As := [.ref (oX O), .int a1, .int a2, .int a3, .ref (oX O + 76)]) rfl hl.1 (Nat.le_of_ble_eq_true rfl) dL_law__443 ⟨by show cells + 1 ≤ room_1.cells; omega, by show slots + 6 ≤ room_1.slots; omega⟩ rfl (fun H locs hR hS => ?_)
  refine lv_istore (lv' := [(5, _), (0, _), (1, _), (2, _), (3, _), (4, _)]) hx hb dL_law__446 hl (Nat.le_of_ble_eq_true rfl) rfl (fun ls hl => ?_)
  refine lv_aload_n hx hb dL_law__448 rfl (lv_at hl 3 rfl) ?_
  refine lv_aload_n hx hb dL_law__449 rfl (lv_at hl 1 rfl) ?_
  refine lv_iload hx hb dL_law__450 (lv_at hl 5 rfl) ?_
  refine lv_iconst (v := 1) hx hb dL_law__452 rfl ?_
  refine lv_iadd hx hb dL_law__453 ?_
  refine x_sld C hX hbl hbA hS (i := i) (k := 1) rfl (by omega) hL ha1 dL_law__454 ?_
  refine lv_aload_n hx hb dL_law__455 rfl (lv_at hl 1 rfl) ?_
  refine lv_iload hx hb dL_law__456 (lv_at hl 5 rfl) ?_
  refine lv_iconst (v := 2) hx hb dL_law__458 rfl ?_
  refine lv_iadd hx hb dL_law__459 ?_
  refine x_sld C hX hbl hbA hS (i := i) (k := 2) rfl (by omega) hL ha2 dL_law__460 ?_
  refine lv_aload_n hx hb dL_law__461 rfl (lv_at hl 1 rfl) ?_
  refine lv_iload hx hb dL_law__462 (lv_at hl 5 rfl) ?_
  refine lv_iconst (v := 3) hx hb dL_law__464 rfl ?_
  refine lv_iadd hx hb dL_law__465 ?_
  refine x_sld C hX hbl hbA hS (i := i) (k := 3) rfl (by omega) hL ha3 dL_law__466 ?_
  obtain ⟨q2, eq2, hf⟩ := x_bd hf
  refine x_cVi3 C hR hS (S_X12_dull  eq2) (x_k hR 64 rfl) (by decide) rfl mf_X12_dull tw_1749 (Nat.le_of_ble_eq_true rfl) (Nat.le_of_ble_eq_true rfl) hl.1 (Nat.le_of_ble_eq_true rfl) dL_law__467 ⟨by show cells + 1 ≤ room_1.cells; omega, by show slots + 6 ≤ room_1.slots; omega⟩ (fun H locs hR hS => ?_)
  refine lv_istore (lv' := [(6, _), (5, _), (0, _), (1, _), (2, _), (3, _), (4, _)]) hx hb dL_law__470 hl (Nat.le_of_ble_eq_true rfl) rfl (fun ls hl => ?_)
  refine lv_aload_n hx hb dL_law__472 rfl (lv_at hl 4 rfl) ?_
  refine x_cVi0 C hR hS (S_X12_thrown  rfl) (x_k hR 64 rfl) (by decide) rfl mf_X12_thrown tw_1533 (Nat.le_of_ble_eq_true rfl) (Nat.le_of_ble_eq_true rfl) hl.1 (Nat.le_of_ble_eq_true rfl) dL_law__473 ⟨by show cells + 1 ≤ room_1.cells; omega, by show slots + 6 ≤ room_1.slots; omega⟩ (fun H locs hR hS => ?_)
  refine lv_iload hx hb dL_law__476 (lv_at hl 1 rfl) ?_
  refine lv_icmp_eq (tgt := 483) hx hb dL_law__478 rfl (fun hc => ?_) (fun hc => ?_)
  · have hf := x_ip hc hf
    refine lv_iload hx hb dL_law__483 (lv_at hl 1 rfl) ?_
    refine lv_if_ne (tgt := 500) hx hb dL_law__485 rfl (fun hc => ?_) (fun hc => ?_)
    · have hf := x_in hc hf
      refine lv_goto (tgt := 2934) hx hb dL_law__500 rfl ?_
      cases hf
      exact kx ls _ _ (lv_sub hl [2, 3, 4, 5, 6] rfl) hR hS
    · have hf := x_ip hc hf
      refine lv_aload_n hx hb dL_law__488 rfl (lv_at hl 5 rfl) ?_
      refine lv_iconst (v := 0) hx hb dL_law__489 rfl ?_
      obtain ⟨g3, hf⟩ := x_gd hf
      refine x_lald C hR (x_k1 (x_k hR 76 rfl)) (x_k2 (x_k hR 76 rfl) g3) dL_law__490 ?_
      refine lv_iload hx hb dL_law__491 (lv_at hl 0 rfl) ?_
      refine lv_i2l hx hb dL_law__493 rfl ?_
      refine W.lcmp hx hb dL_law__494 ?_
      refine lv_if_eq (tgt := 500) hx hb dL_law__495 rfl (fun hc => ?_) (fun hc => ?_)
      · have hf := x_ip hc hf
        refine lv_goto (tgt := 2934) hx hb dL_law__500 rfl ?_
        cases hf
        exact kx ls _ _ (lv_sub hl [2, 3, 4, 5, 6] rfl) hR hS
      · have hf := x_in hc hf
        refine lv_iconst (v := 0) hx hb dL_law__498 rfl ?_
        cases hf
  · have hf := x_in hc hf
    refine lv_iconst (v := 0) hx hb dL_law__481 rfl ?_
    cases hf
def f_row6 (x : Nat) (h : XH) (a1 : Int32) : Option (XH) := Option.bind (f_L_house x h a1) (fun q1 => Option.bind (f_X12_house x q1.2 a1) (fun q2 => if (f_X12_thrown x q2.2) = q1.1 then if q1.1 = 0 then if x_b 0 1 = true then if (lg_cmp (q2.2.2.1 (x + 76) (0 : Int32).toNatClampNeg) q2.1.toInt64) = 0 then some q2.2 else none else none else some q2.2 else none))
set_option maxRecDepth 20000 in
theorem B_row6 {p : Program} {l : Launch} {e : Env} {s : State} {m : MethodId} {args : Array Value} {below : List Frame} {meth : Method} {c : Code} {O : XO} {K : XK} {h h' : XH} {b L i cells slots : Nat} {xs : Nat → Int32} {Q : State → Prop} {a1 : Int32} (C : x_C p s m args meth c O cL_law_ 8 RL (some .boolean)) (hst : l.stackTraces = false) (hX : va_X b L xs s s.heap) (hbl : b < s.heap.size) (hbA : ¬ oA O b) (hL : L ≤ 3072) (hi : i + 6 ≤ L) (ha1 : xs (i + 1) = a1) (hcl : cells + 40 ≤ room_1.cells) (hsl : slots + 900 ≤ room_1.slots) (ls : Array Slot) (H : Heap) (locs : List Loc) (hl : lv_has ls 8 [(0, .ref b), (1, .ref (oX O)), (2, .ref (oX O + 64)), (3, .ref (oX O + 76)), (4, .int (nI i))]) (hR : x_R O K h H) (hS : va_S (oA O) s.heap H locs) (hf : f_row6 (oX O) h a1 = some h') (kx : ∀ (ls : Array Slot) (H : Heap) (locs : List Loc), lv_has ls 8 [(0, .ref b), (1, .ref (oX O)), (2, .ref (oX O + 64)), (3, .ref (oX O + 76)), (4, .int (nI i))] → x_R O K h' H → va_S (oA O) s.heap H locs → W p l e room_1 s m args below meth c H locs (cells + 1) (slots + 6) Q (F0 m 2934 ls [])) : W p l e room_1 s m args below meth c H locs cells slots Q (F0 m 503 ls []) := by
  have hx := C.1
  have hb := C.2.1
  rw [f_row6] at hf
  refine lv_aload_n hx hb dL_law__503 rfl (lv_at hl 1 rfl) ?_
  refine lv_aload_n hx hb dL_law__504 rfl (lv_at hl 0 rfl) ?_
  refine lv_iload hx hb dL_law__505 (lv_at hl 4 rfl) ?_
  refine lv_iconst (v := 1) hx hb dL_law__507 rfl ?_
  refine lv_iadd hx hb dL_law__508 ?_
  refine x_sld C hX hbl hbA hS (i := i) (k := 1) rfl (by omega) hL ha1 dL_law__509 ?_
  refine lv_aload_n hx hb dL_law__510 rfl (lv_at hl 3 rfl) ?_
  obtain ⟨⟨r1, h1⟩, eq1, hf⟩ := x_bd hf
  refine x_callL C hR hS rfl (S_L_house hst eq1) lw_L_house tw_900 (Nat.le_of_ble_eq_true rfl) (Nat.le_of_ble_eq_true rfl) (As := [.ref (oX O), .int a1, .ref (oX O + 76)]) rfl hl.1 (Nat.le_of_ble_eq_true rfl) dL_law__511 ⟨by show cells + 1 ≤ room_1.cells; omega, by show slots + 6 ≤ room_1.slots; omega⟩ rfl (fun H locs hR hS => ?_)
  refine lv_istore (lv' := [(5, _), (0, _), (1, _), (2, _), (3, _), (4, _)]) hx hb dL_law__514 hl (Nat.le_of_ble_eq_true rfl) rfl (fun ls hl => ?_)
  refine lv_aload_n hx hb dL_law__516 rfl (lv_at hl 3 rfl) ?_
  refine lv_aload_n hx hb dL_law__517 rfl (lv_at hl 1 rfl) ?_
  refine lv_iload hx hb dL_law__518 (lv_at hl 5 rfl) ?_
  refine lv_iconst (v := 1) hx hb dL_law__520 rfl ?_
  refine lv_iadd hx hb dL_law__521 ?_
  refine x_sld C hX hbl hbA hS (i := i) (k := 1) rfl (by omega) hL ha1 dL_law__522 ?_
  obtain ⟨q2, eq2, hf⟩ := x_bd hf
  refine x_cVi1 C hR hS (S_X12_house  eq2) (x_k hR 64 rfl) (by decide) rfl mf_X12_house tw_1766 (Nat.le_of_ble_eq_true rfl) (Nat.le_of_ble_eq_true rfl) hl.1 (Nat.le_of_ble_eq_true rfl) dL_law__523 ⟨by show cells + 1 ≤ room_1.cells; omega, by show slots + 6 ≤ room_1.slots; omega⟩ (fun H locs hR hS => ?_)
  refine lv_istore (lv' := [(6, _), (5, _), (0, _), (1, _), (2, _), (3, _), (4, _)]) hx hb dL_law__526 hl (Nat.le_of_ble_eq_true rfl) rfl (fun ls hl => ?_)
  refine lv_aload_n hx hb dL_law__528 rfl (lv_at hl 4 rfl) ?_
  refine x_cVi0 C hR hS (S_X12_thrown  rfl) (x_k hR 64 rfl) (by decide) rfl mf_X12_thrown tw_1533 (Nat.le_of_ble_eq_true rfl) (Nat.le_of_ble_eq_true rfl) hl.1 (Nat.le_of_ble_eq_true rfl) dL_law__529 ⟨by show cells + 1 ≤ room_1.cells; omega, by show slots + 6 ≤ room_1.slots; omega⟩ (fun H locs hR hS => ?_)
  refine lv_iload hx hb dL_law__532 (lv_at hl 1 rfl) ?_
  refine lv_icmp_eq (tgt := 539) hx hb dL_law__534 rfl (fun hc => ?_) (fun hc => ?_)
  · have hf := x_ip hc hf
    refine lv_iload hx hb dL_law__539 (lv_at hl 1 rfl) ?_
    refine lv_if_ne (tgt := 556) hx hb dL_law__541 rfl (fun hc => ?_) (fun hc => ?_)
    · have hf := x_in hc hf
      refine lv_goto (tgt := 2934) hx hb dL_law__556 rfl ?_
      cases hf
      exact kx ls _ _ (lv_sub hl [2, 3, 4, 5, 6] rfl) hR hS
    · have hf := x_ip hc hf
      refine lv_aload_n hx hb dL_law__544 rfl (lv_at hl 5 rfl) ?_
      refine lv_iconst (v := 0) hx hb dL_law__545 rfl ?_
      obtain ⟨g3, hf⟩ := x_gd hf
      refine x_lald C hR (x_k1 (x_k hR 76 rfl)) (x_k2 (x_k hR 76 rfl) g3) dL_law__546 ?_
      refine lv_iload hx hb dL_law__547 (lv_at hl 0 rfl) ?_
      refine lv_i2l hx hb dL_law__549 rfl ?_
      refine W.lcmp hx hb dL_law__550 ?_
      refine lv_if_eq (tgt := 556) hx hb dL_law__551 rfl (fun hc => ?_) (fun hc => ?_)
      · have hf := x_ip hc hf
        refine lv_goto (tgt := 2934) hx hb dL_law__556 rfl ?_
        cases hf
        exact kx ls _ _ (lv_sub hl [2, 3, 4, 5, 6] rfl) hR hS
      · have hf := x_in hc hf
        refine lv_iconst (v := 0) hx hb dL_law__554 rfl ?_
        cases hf
  · have hf := x_in hc hf
    refine lv_iconst (v := 0) hx hb dL_law__537 rfl ?_
    cases hf
def f_row7 (x : Nat) (h : XH) (a1 : Int32) (a2 : Int32) (a3 : Int32) : Option (XH) := Option.bind (f_L_look x h a1 a2 a3) (fun q1 => Option.bind (f_X12_look x q1.2 a1 a2 a3) (fun h2 => if (f_X12_thrown x h2) = q1.1 then some h2 else none))
set_option maxRecDepth 20000 in
theorem B_row7 {p : Program} {l : Launch} {e : Env} {s : State} {m : MethodId} {args : Array Value} {below : List Frame} {meth : Method} {c : Code} {O : XO} {K : XK} {h h' : XH} {b L i cells slots : Nat} {xs : Nat → Int32} {Q : State → Prop} {a1 : Int32} {a2 : Int32} {a3 : Int32} (C : x_C p s m args meth c O cL_law_ 8 RL (some .boolean)) (hst : l.stackTraces = false) (hX : va_X b L xs s s.heap) (hbl : b < s.heap.size) (hbA : ¬ oA O b) (hL : L ≤ 3072) (hi : i + 6 ≤ L) (ha1 : xs (i + 1) = a1) (ha2 : xs (i + 2) = a2) (ha3 : xs (i + 3) = a3) (hcl : cells + 40 ≤ room_1.cells) (hsl : slots + 900 ≤ room_1.slots) (ls : Array Slot) (H : Heap) (locs : List Loc) (hl : lv_has ls 8 [(0, .ref b), (1, .ref (oX O)), (2, .ref (oX O + 64)), (3, .ref (oX O + 76)), (4, .int (nI i))]) (hR : x_R O K h H) (hS : va_S (oA O) s.heap H locs) (hf : f_row7 (oX O) h a1 a2 a3 = some h') (kx : ∀ (ls : Array Slot) (H : Heap) (locs : List Loc), lv_has ls 8 [(0, .ref b), (1, .ref (oX O)), (2, .ref (oX O + 64)), (3, .ref (oX O + 76)), (4, .int (nI i))] → x_R O K h' H → va_S (oA O) s.heap H locs → W p l e room_1 s m args below meth c H locs (cells + 3) (slots + 18) Q (F0 m 2934 ls [])) : W p l e room_1 s m args below meth c H locs cells slots Q (F0 m 559 ls []) := by
  have hx := C.1
  have hb := C.2.1
  rw [f_row7] at hf
  refine lv_aload_n hx hb dL_law__559 rfl (lv_at hl 1 rfl) ?_
  refine lv_aload_n hx hb dL_law__560 rfl (lv_at hl 0 rfl) ?_
  refine lv_iload hx hb dL_law__561 (lv_at hl 4 rfl) ?_
  refine lv_iconst (v := 1) hx hb dL_law__563 rfl ?_
  refine lv_iadd hx hb dL_law__564 ?_
  refine x_sld C hX hbl hbA hS (i := i) (k := 1) rfl (by omega) hL ha1 dL_law__565 ?_
  refine lv_aload_n hx hb dL_law__566 rfl (lv_at hl 0 rfl) ?_
  refine lv_iload hx hb dL_law__567 (lv_at hl 4 rfl) ?_
  refine lv_iconst (v := 2) hx hb dL_law__569 rfl ?_
  refine lv_iadd hx hb dL_law__570 ?_
  refine x_sld C hX hbl hbA hS (i := i) (k := 2) rfl (by omega) hL ha2 dL_law__571 ?_
  refine lv_aload_n hx hb dL_law__572 rfl (lv_at hl 0 rfl) ?_
  refine lv_iload hx hb dL_law__573 (lv_at hl 4 rfl) ?_
  refine lv_iconst (v := 3) hx hb dL_law__575 rfl ?_
  refine lv_iadd hx hb dL_law__576 ?_
  refine x_sld C hX hbl hbA hS (i := i) (k := 3) rfl (by omega) hL ha3 dL_law__577 ?_
  obtain ⟨⟨r1, h1⟩, eq1, hf⟩ := x_bd hf
  refine x_callL C hR hS rfl (S_L_look hst eq1) lw_L_look tw_913 (Nat.le_of_ble_eq_true rfl) (Nat.le_of_ble_eq_true rfl) (As := [.ref (oX O), .int a1, .int a2, .int a3]) rfl hl.1 (Nat.le_of_ble_eq_true rfl) dL_law__578 ⟨by show cells + 3 ≤ room_1.cells; omega, by show slots + 18 ≤ room_1.slots; omega⟩ rfl (fun H locs hR hS => ?_)
  refine lv_istore (lv' := [(5, _), (0, _), (1, _), (2, _), (3, _), (4, _)]) hx hb dL_law__581 hl (Nat.le_of_ble_eq_true rfl) rfl (fun ls hl => ?_)
  refine lv_aload_n hx hb dL_law__583 rfl (lv_at hl 3 rfl) ?_
  refine lv_aload_n hx hb dL_law__584 rfl (lv_at hl 1 rfl) ?_
  refine lv_iload hx hb dL_law__585 (lv_at hl 5 rfl) ?_
  refine lv_iconst (v := 1) hx hb dL_law__587 rfl ?_
  refine lv_iadd hx hb dL_law__588 ?_
  refine x_sld C hX hbl hbA hS (i := i) (k := 1) rfl (by omega) hL ha1 dL_law__589 ?_
  refine lv_aload_n hx hb dL_law__590 rfl (lv_at hl 1 rfl) ?_
  refine lv_iload hx hb dL_law__591 (lv_at hl 5 rfl) ?_
  refine lv_iconst (v := 2) hx hb dL_law__593 rfl ?_
  refine lv_iadd hx hb dL_law__594 ?_
  refine x_sld C hX hbl hbA hS (i := i) (k := 2) rfl (by omega) hL ha2 dL_law__595 ?_
  refine lv_aload_n hx hb dL_law__596 rfl (lv_at hl 1 rfl) ?_
  refine lv_iload hx hb dL_law__597 (lv_at hl 5 rfl) ?_
  refine lv_iconst (v := 3) hx hb dL_law__599 rfl ?_
  refine lv_iadd hx hb dL_law__600 ?_
  refine x_sld C hX hbl hbA hS (i := i) (k := 3) rfl (by omega) hL ha3 dL_law__601 ?_
  obtain ⟨h2, eh2, hf⟩ := x_bd hf
  refine x_cVv3 C hR hS (S_X12_look  eh2) (x_k hR 64 rfl) (by decide) rfl mf_X12_look tw_1770 (Nat.le_of_ble_eq_true rfl) (Nat.le_of_ble_eq_true rfl) hl.1 (Nat.le_of_ble_eq_true rfl) dL_law__602 ⟨by show cells + 3 ≤ room_1.cells; omega, by show slots + 18 ≤ room_1.slots; omega⟩ (fun H locs hR hS => ?_)
  refine lv_aload_n hx hb dL_law__605 rfl (lv_at hl 3 rfl) ?_
  refine x_cVi0 C hR hS (S_X12_thrown  rfl) (x_k hR 64 rfl) (by decide) rfl mf_X12_thrown tw_1533 (Nat.le_of_ble_eq_true rfl) (Nat.le_of_ble_eq_true rfl) hl.1 (Nat.le_of_ble_eq_true rfl) dL_law__606 ⟨by show cells + 3 ≤ room_1.cells; omega, by show slots + 18 ≤ room_1.slots; omega⟩ (fun H locs hR hS => ?_)
  refine lv_iload hx hb dL_law__609 (lv_at hl 0 rfl) ?_
  refine lv_icmp_eq (tgt := 616) hx hb dL_law__611 rfl (fun hc => ?_) (fun hc => ?_)
  · have hf := x_ip hc hf
    refine lv_goto (tgt := 2934) hx hb dL_law__616 rfl ?_
    cases hf
    exact kx ls _ _ (lv_sub hl [1, 2, 3, 4, 5] rfl) hR hS
  · have hf := x_in hc hf
    refine lv_iconst (v := 0) hx hb dL_law__614 rfl ?_
    cases hf
def f_row8 (K : XK) (x : Nat) (h : XH) (a1 : Int32) (a2 : Int32) (a3 : Int32) : Option (XH) := Option.bind (f_L_pack K x h a1 a2 a3) (fun q1 => Option.bind (f_X12_pack x q1.2 a1 a2 a3) (fun q2 => if (f_X12_thrown x q2.2) = q1.1 then if q1.1 = 0 then if x_b 0 1 = true then if (lg_cmp (q2.2.2.1 (x + 76) (0 : Int32).toNatClampNeg) q2.1.toInt64) = 0 then some q2.2 else none else none else some q2.2 else none))
set_option maxRecDepth 20000 in
theorem B_row8 {p : Program} {l : Launch} {e : Env} {s : State} {m : MethodId} {args : Array Value} {below : List Frame} {meth : Method} {c : Code} {O : XO} {K : XK} {h h' : XH} {b L i cells slots : Nat} {xs : Nat → Int32} {Q : State → Prop} {a1 : Int32} {a2 : Int32} {a3 : Int32} (C : x_C p s m args meth c O cL_law_ 8 RL (some .boolean)) (hst : l.stackTraces = false) (hX : va_X b L xs s s.heap) (hbl : b < s.heap.size) (hbA : ¬ oA O b) (hL : L ≤ 3072) (hi : i + 6 ≤ L) (ha1 : xs (i + 1) = a1) (ha2 : xs (i + 2) = a2) (ha3 : xs (i + 3) = a3) (hcl : cells + 40 ≤ room_1.cells) (hsl : slots + 900 ≤ room_1.slots) (ls : Array Slot) (H : Heap) (locs : List Loc) (hl : lv_has ls 8 [(0, .ref b), (1, .ref (oX O)), (2, .ref (oX O + 64)), (3, .ref (oX O + 76)), (4, .int (nI i))]) (hR : x_R O K h H) (hS : va_S (oA O) s.heap H locs) (hf : f_row8 K (oX O) h a1 a2 a3 = some h') (kx : ∀ (ls : Array Slot) (H : Heap) (locs : List Loc), lv_has ls 8 [(0, .ref b), (1, .ref (oX O)), (2, .ref (oX O + 64)), (3, .ref (oX O + 76)), (4, .int (nI i))] → x_R O K h' H → va_S (oA O) s.heap H locs → W p l e room_1 s m args below meth c H locs (cells + 1) (slots + 6) Q (F0 m 2934 ls [])) : W p l e room_1 s m args below meth c H locs cells slots Q (F0 m 619 ls []) := by
  have hx := C.1
  have hb := C.2.1
  rw [f_row8] at hf
  refine lv_aload_n hx hb dL_law__619 rfl (lv_at hl 1 rfl) ?_
  refine lv_aload_n hx hb dL_law__620 rfl (lv_at hl 0 rfl) ?_
  refine lv_iload hx hb dL_law__621 (lv_at hl 4 rfl) ?_
  refine lv_iconst (v := 1) hx hb dL_law__623 rfl ?_
  refine lv_iadd hx hb dL_law__624 ?_
  refine x_sld C hX hbl hbA hS (i := i) (k := 1) rfl (by omega) hL ha1 dL_law__625 ?_
  refine lv_aload_n hx hb dL_law__626 rfl (lv_at hl 0 rfl) ?_
  refine lv_iload hx hb dL_law__627 (lv_at hl 4 rfl) ?_
  refine lv_iconst (v := 2) hx hb dL_law__629 rfl ?_
  refine lv_iadd hx hb dL_law__630 ?_
  refine x_sld C hX hbl hbA hS (i := i) (k := 2) rfl (by omega) hL ha2 dL_law__631 ?_
  refine lv_aload_n hx hb dL_law__632 rfl (lv_at hl 0 rfl) ?_
  refine lv_iload hx hb dL_law__633 (lv_at hl 4 rfl) ?_
  refine lv_iconst (v := 3) hx hb dL_law__635 rfl ?_
  refine lv_iadd hx hb dL_law__636 ?_
  refine x_sld C hX hbl hbA hS (i := i) (k := 3) rfl (by omega) hL ha3 dL_law__637 ?_
  refine lv_aload_n hx hb dL_law__638 rfl (lv_at hl 3 rfl) ?_
  obtain ⟨⟨r1, h1⟩, eq1, hf⟩ := x_bd hf
  refine x_callL C hR hS rfl (S_L_pack hst eq1) lw_L_pack tw_931 (Nat.le_of_ble_eq_true rfl) (Nat.le_of_ble_eq_true rfl) (As := [.ref (oX O), .int a1, .int a2, .int a3, .ref (oX O + 76)]) rfl hl.1 (Nat.le_of_ble_eq_true rfl) dL_law__639 ⟨by show cells + 1 ≤ room_1.cells; omega, by show slots + 6 ≤ room_1.slots; omega⟩ rfl (fun H locs hR hS => ?_)
  refine lv_istore (lv' := [(5, _), (0, _), (1, _), (2, _), (3, _), (4, _)]) hx hb dL_law__642 hl (Nat.le_of_ble_eq_true rfl) rfl (fun ls hl => ?_)
  refine lv_aload_n hx hb dL_law__644 rfl (lv_at hl 3 rfl) ?_
  refine lv_aload_n hx hb dL_law__645 rfl (lv_at hl 1 rfl) ?_
  refine lv_iload hx hb dL_law__646 (lv_at hl 5 rfl) ?_
  refine lv_iconst (v := 1) hx hb dL_law__648 rfl ?_
  refine lv_iadd hx hb dL_law__649 ?_
  refine x_sld C hX hbl hbA hS (i := i) (k := 1) rfl (by omega) hL ha1 dL_law__650 ?_
  refine lv_aload_n hx hb dL_law__651 rfl (lv_at hl 1 rfl) ?_
  refine lv_iload hx hb dL_law__652 (lv_at hl 5 rfl) ?_
  refine lv_iconst (v := 2) hx hb dL_law__654 rfl ?_
  refine lv_iadd hx hb dL_law__655 ?_
  refine x_sld C hX hbl hbA hS (i := i) (k := 2) rfl (by omega) hL ha2 dL_law__656 ?_
  refine lv_aload_n hx hb dL_law__657 rfl (lv_at hl 1 rfl) ?_
  refine lv_iload hx hb dL_law__658 (lv_at hl 5 rfl) ?_
  refine lv_iconst (v := 3) hx hb dL_law__660 rfl ?_
  refine lv_iadd hx hb dL_law__661 ?_
  refine x_sld C hX hbl hbA hS (i := i) (k := 3) rfl (by omega) hL ha3 dL_law__662 ?_
  obtain ⟨q2, eq2, hf⟩ := x_bd hf
  refine x_cVi3 C hR hS (S_X12_pack  eq2) (x_k hR 64 rfl) (by decide) rfl mf_X12_pack tw_1786 (Nat.le_of_ble_eq_true rfl) (Nat.le_of_ble_eq_true rfl) hl.1 (Nat.le_of_ble_eq_true rfl) dL_law__663 ⟨by show cells + 1 ≤ room_1.cells; omega, by show slots + 6 ≤ room_1.slots; omega⟩ (fun H locs hR hS => ?_)
  refine lv_istore (lv' := [(6, _), (5, _), (0, _), (1, _), (2, _), (3, _), (4, _)]) hx hb dL_law__666 hl (Nat.le_of_ble_eq_true rfl) rfl (fun ls hl => ?_)
  refine lv_aload_n hx hb dL_law__668 rfl (lv_at hl 4 rfl) ?_
  refine x_cVi0 C hR hS (S_X12_thrown  rfl) (x_k hR 64 rfl) (by decide) rfl mf_X12_thrown tw_1533 (Nat.le_of_ble_eq_true rfl) (Nat.le_of_ble_eq_true rfl) hl.1 (Nat.le_of_ble_eq_true rfl) dL_law__669 ⟨by show cells + 1 ≤ room_1.cells; omega, by show slots + 6 ≤ room_1.slots; omega⟩ (fun H locs hR hS => ?_)
  refine lv_iload hx hb dL_law__672 (lv_at hl 1 rfl) ?_
  refine lv_icmp_eq (tgt := 679) hx hb dL_law__674 rfl (fun hc => ?_) (fun hc => ?_)
  · have hf := x_ip hc hf
    refine lv_iload hx hb dL_law__679 (lv_at hl 1 rfl) ?_
    refine lv_if_ne (tgt := 696) hx hb dL_law__681 rfl (fun hc => ?_) (fun hc => ?_)
    · have hf := x_in hc hf
      refine lv_goto (tgt := 2934) hx hb dL_law__696 rfl ?_
      cases hf
      exact kx ls _ _ (lv_sub hl [2, 3, 4, 5, 6] rfl) hR hS
    · have hf := x_ip hc hf
      refine lv_aload_n hx hb dL_law__684 rfl (lv_at hl 5 rfl) ?_
      refine lv_iconst (v := 0) hx hb dL_law__685 rfl ?_
      obtain ⟨g3, hf⟩ := x_gd hf
      refine x_lald C hR (x_k1 (x_k hR 76 rfl)) (x_k2 (x_k hR 76 rfl) g3) dL_law__686 ?_
      refine lv_iload hx hb dL_law__687 (lv_at hl 0 rfl) ?_
      refine lv_i2l hx hb dL_law__689 rfl ?_
      refine W.lcmp hx hb dL_law__690 ?_
      refine lv_if_eq (tgt := 696) hx hb dL_law__691 rfl (fun hc => ?_) (fun hc => ?_)
      · have hf := x_ip hc hf
        refine lv_goto (tgt := 2934) hx hb dL_law__696 rfl ?_
        cases hf
        exact kx ls _ _ (lv_sub hl [2, 3, 4, 5, 6] rfl) hR hS
      · have hf := x_in hc hf
        refine lv_iconst (v := 0) hx hb dL_law__694 rfl ?_
        cases hf
  · have hf := x_in hc hf
    refine lv_iconst (v := 0) hx hb dL_law__677 rfl ?_
    cases hf
def f_row9 (x : Nat) (h : XH) (a1 : Int32) (a2 : Int32) : Option (XH) := Option.bind (f_L_card x h a1 a2) (fun q1 => Option.bind (f_X12_card x q1.2 a1 a2) (fun q2 => if (f_X12_thrown x q2.2) = q1.1 then if q1.1 = 0 then if x_b 0 1 = true then if (lg_cmp (q2.2.2.1 (x + 76) (0 : Int32).toNatClampNeg) q2.1.toInt64) = 0 then some q2.2 else none else none else some q2.2 else none))
set_option maxRecDepth 20000 in
theorem B_row9 {p : Program} {l : Launch} {e : Env} {s : State} {m : MethodId} {args : Array Value} {below : List Frame} {meth : Method} {c : Code} {O : XO} {K : XK} {h h' : XH} {b L i cells slots : Nat} {xs : Nat → Int32} {Q : State → Prop} {a1 : Int32} {a2 : Int32} (C : x_C p s m args meth c O cL_law_ 8 RL (some .boolean)) (hst : l.stackTraces = false) (hX : va_X b L xs s s.heap) (hbl : b < s.heap.size) (hbA : ¬ oA O b) (hL : L ≤ 3072) (hi : i + 6 ≤ L) (ha1 : xs (i + 1) = a1) (ha2 : xs (i + 2) = a2) (hcl : cells + 40 ≤ room_1.cells) (hsl : slots + 900 ≤ room_1.slots) (ls : Array Slot) (H : Heap) (locs : List Loc) (hl : lv_has ls 8 [(0, .ref b), (1, .ref (oX O)), (2, .ref (oX O + 64)), (3, .ref (oX O + 76)), (4, .int (nI i))]) (hR : x_R O K h H) (hS : va_S (oA O) s.heap H locs) (hf : f_row9 (oX O) h a1 a2 = some h') (kx : ∀ (ls : Array Slot) (H : Heap) (locs : List Loc), lv_has ls 8 [(0, .ref b), (1, .ref (oX O)), (2, .ref (oX O + 64)), (3, .ref (oX O + 76)), (4, .int (nI i))] → x_R O K h' H → va_S (oA O) s.heap H locs → W p l e room_1 s m args below meth c H locs (cells + 2) (slots + 12) Q (F0 m 2934 ls [])) : W p l e room_1 s m args below meth c H locs cells slots Q (F0 m 699 ls []) := by
  have hx := C.1
  have hb := C.2.1
  rw [f_row9] at hf
  refine lv_aload_n hx hb dL_law__699 rfl (lv_at hl 1 rfl) ?_
  refine lv_aload_n hx hb dL_law__700 rfl (lv_at hl 0 rfl) ?_
  refine lv_iload hx hb dL_law__701 (lv_at hl 4 rfl) ?_
  refine lv_iconst (v := 1) hx hb dL_law__703 rfl ?_
  refine lv_iadd hx hb dL_law__704 ?_
  refine x_sld C hX hbl hbA hS (i := i) (k := 1) rfl (by omega) hL ha1 dL_law__705 ?_
  refine lv_aload_n hx hb dL_law__706 rfl (lv_at hl 0 rfl) ?_
  refine lv_iload hx hb dL_law__707 (lv_at hl 4 rfl) ?_
  refine lv_iconst (v := 2) hx hb dL_law__709 rfl ?_
  refine lv_iadd hx hb dL_law__710 ?_
  refine x_sld C hX hbl hbA hS (i := i) (k := 2) rfl (by omega) hL ha2 dL_law__711 ?_
  refine lv_aload_n hx hb dL_law__712 rfl (lv_at hl 3 rfl) ?_
  obtain ⟨⟨r1, h1⟩, eq1, hf⟩ := x_bd hf
  refine x_callL C hR hS rfl (S_L_card hst eq1) lw_L_card tw_948 (Nat.le_of_ble_eq_true rfl) (Nat.le_of_ble_eq_true rfl) (As := [.ref (oX O), .int a1, .int a2, .ref (oX O + 76)]) rfl hl.1 (Nat.le_of_ble_eq_true rfl) dL_law__713 ⟨by show cells + 2 ≤ room_1.cells; omega, by show slots + 12 ≤ room_1.slots; omega⟩ rfl (fun H locs hR hS => ?_)
  refine lv_istore (lv' := [(5, _), (0, _), (1, _), (2, _), (3, _), (4, _)]) hx hb dL_law__716 hl (Nat.le_of_ble_eq_true rfl) rfl (fun ls hl => ?_)
  refine lv_aload_n hx hb dL_law__718 rfl (lv_at hl 3 rfl) ?_
  refine lv_aload_n hx hb dL_law__719 rfl (lv_at hl 1 rfl) ?_
  refine lv_iload hx hb dL_law__720 (lv_at hl 5 rfl) ?_
  refine lv_iconst (v := 1) hx hb dL_law__722 rfl ?_
  refine lv_iadd hx hb dL_law__723 ?_
  refine x_sld C hX hbl hbA hS (i := i) (k := 1) rfl (by omega) hL ha1 dL_law__724 ?_
  refine lv_aload_n hx hb dL_law__725 rfl (lv_at hl 1 rfl) ?_
  refine lv_iload hx hb dL_law__726 (lv_at hl 5 rfl) ?_
  refine lv_iconst (v := 2) hx hb dL_law__728 rfl ?_
  refine lv_iadd hx hb dL_law__729 ?_
  refine x_sld C hX hbl hbA hS (i := i) (k := 2) rfl (by omega) hL ha2 dL_law__730 ?_
  obtain ⟨q2, eq2, hf⟩ := x_bd hf
  refine x_cVi2 C hR hS (S_X12_card  eq2) (x_k hR 64 rfl) (by decide) rfl mf_X12_card tw_1794 (Nat.le_of_ble_eq_true rfl) (Nat.le_of_ble_eq_true rfl) hl.1 (Nat.le_of_ble_eq_true rfl) dL_law__731 ⟨by show cells + 2 ≤ room_1.cells; omega, by show slots + 12 ≤ room_1.slots; omega⟩ (fun H locs hR hS => ?_)
  refine lv_istore (lv' := [(6, _), (5, _), (0, _), (1, _), (2, _), (3, _), (4, _)]) hx hb dL_law__734 hl (Nat.le_of_ble_eq_true rfl) rfl (fun ls hl => ?_)
  refine lv_aload_n hx hb dL_law__736 rfl (lv_at hl 4 rfl) ?_
  refine x_cVi0 C hR hS (S_X12_thrown  rfl) (x_k hR 64 rfl) (by decide) rfl mf_X12_thrown tw_1533 (Nat.le_of_ble_eq_true rfl) (Nat.le_of_ble_eq_true rfl) hl.1 (Nat.le_of_ble_eq_true rfl) dL_law__737 ⟨by show cells + 2 ≤ room_1.cells; omega, by show slots + 12 ≤ room_1.slots; omega⟩ (fun H locs hR hS => ?_)
  refine lv_iload hx hb dL_law__740 (lv_at hl 1 rfl) ?_
  refine lv_icmp_eq (tgt := 747) hx hb dL_law__742 rfl (fun hc => ?_) (fun hc => ?_)
  · have hf := x_ip hc hf
    refine lv_iload hx hb dL_law__747 (lv_at hl 1 rfl) ?_
    refine lv_if_ne (tgt := 764) hx hb dL_law__749 rfl (fun hc => ?_) (fun hc => ?_)
    · have hf := x_in hc hf
      refine lv_goto (tgt := 2934) hx hb dL_law__764 rfl ?_
      cases hf
      exact kx ls _ _ (lv_sub hl [2, 3, 4, 5, 6] rfl) hR hS
    · have hf := x_ip hc hf
      refine lv_aload_n hx hb dL_law__752 rfl (lv_at hl 5 rfl) ?_
      refine lv_iconst (v := 0) hx hb dL_law__753 rfl ?_
      obtain ⟨g3, hf⟩ := x_gd hf
      refine x_lald C hR (x_k1 (x_k hR 76 rfl)) (x_k2 (x_k hR 76 rfl) g3) dL_law__754 ?_
      refine lv_iload hx hb dL_law__755 (lv_at hl 0 rfl) ?_
      refine lv_i2l hx hb dL_law__757 rfl ?_
      refine W.lcmp hx hb dL_law__758 ?_
      refine lv_if_eq (tgt := 764) hx hb dL_law__759 rfl (fun hc => ?_) (fun hc => ?_)
      · have hf := x_ip hc hf
        refine lv_goto (tgt := 2934) hx hb dL_law__764 rfl ?_
        cases hf
        exact kx ls _ _ (lv_sub hl [2, 3, 4, 5, 6] rfl) hR hS
      · have hf := x_in hc hf
        refine lv_iconst (v := 0) hx hb dL_law__762 rfl ?_
        cases hf
  · have hf := x_in hc hf
    refine lv_iconst (v := 0) hx hb dL_law__745 rfl ?_
    cases hf
def f_row10 (x : Nat) (h : XH) (a1 : Int32) (a2 : Int32) (a3 : Int32) (a4 : Int32) (a5 : Int32) : Option (XH) := Option.bind (f_L_put x h a1 a2 a3 a4 a5) (fun q1 => Option.bind (f_X12_put x q1.2 a1 a2 a3 a4 a5) (fun q2 => if (f_X12_thrown x q2.2) = q1.1 then if q1.1 = 0 then if x_b 0 1 = true then if (lg_cmp (q2.2.2.1 (x + 76) (0 : Int32).toNatClampNeg) q2.1.toInt64) = 0 then some q2.2 else none else none else some q2.2 else none))
set_option maxRecDepth 20000 in
theorem B_row10 {p : Program} {l : Launch} {e : Env} {s : State} {m : MethodId} {args : Array Value} {below : List Frame} {meth : Method} {c : Code} {O : XO} {K : XK} {h h' : XH} {b L i cells slots : Nat} {xs : Nat → Int32} {Q : State → Prop} {a1 : Int32} {a2 : Int32} {a3 : Int32} {a4 : Int32} {a5 : Int32} (C : x_C p s m args meth c O cL_law_ 8 RL (some .boolean)) (hst : l.stackTraces = false) (hX : va_X b L xs s s.heap) (hbl : b < s.heap.size) (hbA : ¬ oA O b) (hL : L ≤ 3072) (hi : i + 6 ≤ L) (ha1 : xs (i + 1) = a1) (ha2 : xs (i + 2) = a2) (ha3 : xs (i + 3) = a3) (ha4 : xs (i + 4) = a4) (ha5 : xs (i + 5) = a5) (hcl : cells + 40 ≤ room_1.cells) (hsl : slots + 900 ≤ room_1.slots) (ls : Array Slot) (H : Heap) (locs : List Loc) (hl : lv_has ls 8 [(0, .ref b), (1, .ref (oX O)), (2, .ref (oX O + 64)), (3, .ref (oX O + 76)), (4, .int (nI i))]) (hR : x_R O K h H) (hS : va_S (oA O) s.heap H locs) (hf : f_row10 (oX O) h a1 a2 a3 a4 a5 = some h') (kx : ∀ (ls : Array Slot) (H : Heap) (locs : List Loc), lv_has ls 8 [(0, .ref b), (1, .ref (oX O)), (2, .ref (oX O + 64)), (3, .ref (oX O + 76)), (4, .int (nI i))] → x_R O K h' H → va_S (oA O) s.heap H locs → W p l e room_1 s m args below meth c H locs (cells + 7) (slots + 42) Q (F0 m 2934 ls [])) : W p l e room_1 s m args below meth c H locs cells slots Q (F0 m 767 ls []) := by
  have hx := C.1
  have hb := C.2.1
  rw [f_row10] at hf
  refine lv_aload_n hx hb dL_law__767 rfl (lv_at hl 1 rfl) ?_
  refine lv_aload_n hx hb dL_law__768 rfl (lv_at hl 0 rfl) ?_
  refine lv_iload hx hb dL_law__769 (lv_at hl 4 rfl) ?_
  refine lv_iconst (v := 1) hx hb dL_law__771 rfl ?_
  refine lv_iadd hx hb dL_law__772 ?_
  refine x_sld C hX hbl hbA hS (i := i) (k := 1) rfl (by omega) hL ha1 dL_law__773 ?_
  refine lv_aload_n hx hb dL_law__774 rfl (lv_at hl 0 rfl) ?_
  refine lv_iload hx hb dL_law__775 (lv_at hl 4 rfl) ?_
  refine lv_iconst (v := 2) hx hb dL_law__777 rfl ?_
  refine lv_iadd hx hb dL_law__778 ?_
  refine x_sld C hX hbl hbA hS (i := i) (k := 2) rfl (by omega) hL ha2 dL_law__779 ?_
  refine lv_aload_n hx hb dL_law__780 rfl (lv_at hl 0 rfl) ?_
  refine lv_iload hx hb dL_law__781 (lv_at hl 4 rfl) ?_
  refine lv_iconst (v := 3) hx hb dL_law__783 rfl ?_
  refine lv_iadd hx hb dL_law__784 ?_
  refine x_sld C hX hbl hbA hS (i := i) (k := 3) rfl (by omega) hL ha3 dL_law__785 ?_
  refine lv_aload_n hx hb dL_law__786 rfl (lv_at hl 0 rfl) ?_
  refine lv_iload hx hb dL_law__787 (lv_at hl 4 rfl) ?_
  refine lv_iconst (v := 4) hx hb dL_law__789 rfl ?_
  refine lv_iadd hx hb dL_law__790 ?_
  refine x_sld C hX hbl hbA hS (i := i) (k := 4) rfl (by omega) hL ha4 dL_law__791 ?_
  refine lv_aload_n hx hb dL_law__792 rfl (lv_at hl 0 rfl) ?_
  refine lv_iload hx hb dL_law__793 (lv_at hl 4 rfl) ?_
  refine lv_iconst (v := 5) hx hb dL_law__795 rfl ?_
  refine lv_iadd hx hb dL_law__796 ?_
  refine x_sld C hX hbl hbA hS (i := i) (k := 5) rfl (by omega) hL ha5 dL_law__797 ?_
  refine lv_aload_n hx hb dL_law__798 rfl (lv_at hl 3 rfl) ?_
  obtain ⟨⟨r1, h1⟩, eq1, hf⟩ := x_bd hf
  refine x_callL C hR hS rfl (S_L_put hst eq1) lw_L_put tw_966 (Nat.le_of_ble_eq_true rfl) (Nat.le_of_ble_eq_true rfl) (As := [.ref (oX O), .int a1, .int a2, .int a3, .int a4, .int a5, .ref (oX O + 76)]) rfl hl.1 (Nat.le_of_ble_eq_true rfl) dL_law__799 ⟨by show cells + 7 ≤ room_1.cells; omega, by show slots + 42 ≤ room_1.slots; omega⟩ rfl (fun H locs hR hS => ?_)
  refine lv_istore (lv' := [(5, _), (0, _), (1, _), (2, _), (3, _), (4, _)]) hx hb dL_law__802 hl (Nat.le_of_ble_eq_true rfl) rfl (fun ls hl => ?_)
  refine lv_aload_n hx hb dL_law__804 rfl (lv_at hl 3 rfl) ?_
  refine lv_aload_n hx hb dL_law__805 rfl (lv_at hl 1 rfl) ?_
  refine lv_iload hx hb dL_law__806 (lv_at hl 5 rfl) ?_
  refine lv_iconst (v := 1) hx hb dL_law__808 rfl ?_
  refine lv_iadd hx hb dL_law__809 ?_
  refine x_sld C hX hbl hbA hS (i := i) (k := 1) rfl (by omega) hL ha1 dL_law__810 ?_
  refine lv_aload_n hx hb dL_law__811 rfl (lv_at hl 1 rfl) ?_
  refine lv_iload hx hb dL_law__812 (lv_at hl 5 rfl) ?_
  refine lv_iconst (v := 2) hx hb dL_law__814 rfl ?_
  refine lv_iadd hx hb dL_law__815 ?_
  refine x_sld C hX hbl hbA hS (i := i) (k := 2) rfl (by omega) hL ha2 dL_law__816 ?_
  refine lv_aload_n hx hb dL_law__817 rfl (lv_at hl 1 rfl) ?_
  refine lv_iload hx hb dL_law__818 (lv_at hl 5 rfl) ?_
  refine lv_iconst (v := 3) hx hb dL_law__820 rfl ?_
  refine lv_iadd hx hb dL_law__821 ?_
  refine x_sld C hX hbl hbA hS (i := i) (k := 3) rfl (by omega) hL ha3 dL_law__822 ?_
  refine lv_aload_n hx hb dL_law__823 rfl (lv_at hl 1 rfl) ?_
  refine lv_iload hx hb dL_law__824 (lv_at hl 5 rfl) ?_
  refine lv_iconst (v := 4) hx hb dL_law__826 rfl ?_
  refine lv_iadd hx hb dL_law__827 ?_
  refine x_sld C hX hbl hbA hS (i := i) (k := 4) rfl (by omega) hL ha4 dL_law__828 ?_
  refine lv_aload_n hx hb dL_law__829 rfl (lv_at hl 1 rfl) ?_
  refine lv_iload hx hb dL_law__830 (lv_at hl 5 rfl) ?_
  refine lv_iconst (v := 5) hx hb dL_law__832 rfl ?_
  refine lv_iadd hx hb dL_law__833 ?_
  refine x_sld C hX hbl hbA hS (i := i) (k := 5) rfl (by omega) hL ha5 dL_law__834 ?_
  obtain ⟨q2, eq2, hf⟩ := x_bd hf
  refine x_cVi5 C hR hS (S_X12_put  eq2) (x_k hR 64 rfl) (by decide) rfl mf_X12_put tw_1814 (Nat.le_of_ble_eq_true rfl) (Nat.le_of_ble_eq_true rfl) hl.1 (Nat.le_of_ble_eq_true rfl) dL_law__835 ⟨by show cells + 7 ≤ room_1.cells; omega, by show slots + 42 ≤ room_1.slots; omega⟩ (fun H locs hR hS => ?_)
  refine lv_istore (lv' := [(6, _), (5, _), (0, _), (1, _), (2, _), (3, _), (4, _)]) hx hb dL_law__838 hl (Nat.le_of_ble_eq_true rfl) rfl (fun ls hl => ?_)
  refine lv_aload_n hx hb dL_law__840 rfl (lv_at hl 4 rfl) ?_
  refine x_cVi0 C hR hS (S_X12_thrown  rfl) (x_k hR 64 rfl) (by decide) rfl mf_X12_thrown tw_1533 (Nat.le_of_ble_eq_true rfl) (Nat.le_of_ble_eq_true rfl) hl.1 (Nat.le_of_ble_eq_true rfl) dL_law__841 ⟨by show cells + 7 ≤ room_1.cells; omega, by show slots + 42 ≤ room_1.slots; omega⟩ (fun H locs hR hS => ?_)
  refine lv_iload hx hb dL_law__844 (lv_at hl 1 rfl) ?_
  refine lv_icmp_eq (tgt := 851) hx hb dL_law__846 rfl (fun hc => ?_) (fun hc => ?_)
  · have hf := x_ip hc hf
    refine lv_iload hx hb dL_law__851 (lv_at hl 1 rfl) ?_
    refine lv_if_ne (tgt := 868) hx hb dL_law__853 rfl (fun hc => ?_) (fun hc => ?_)
    · have hf := x_in hc hf
      refine lv_goto (tgt := 2934) hx hb dL_law__868 rfl ?_
      cases hf
      exact kx ls _ _ (lv_sub hl [2, 3, 4, 5, 6] rfl) hR hS
    · have hf := x_ip hc hf
      refine lv_aload_n hx hb dL_law__856 rfl (lv_at hl 5 rfl) ?_
      refine lv_iconst (v := 0) hx hb dL_law__857 rfl ?_
      obtain ⟨g3, hf⟩ := x_gd hf
      refine x_lald C hR (x_k1 (x_k hR 76 rfl)) (x_k2 (x_k hR 76 rfl) g3) dL_law__858 ?_
      refine lv_iload hx hb dL_law__859 (lv_at hl 0 rfl) ?_
      refine lv_i2l hx hb dL_law__861 rfl ?_
      refine W.lcmp hx hb dL_law__862 ?_
      refine lv_if_eq (tgt := 868) hx hb dL_law__863 rfl (fun hc => ?_) (fun hc => ?_)
      · have hf := x_ip hc hf
        refine lv_goto (tgt := 2934) hx hb dL_law__868 rfl ?_
        cases hf
        exact kx ls _ _ (lv_sub hl [2, 3, 4, 5, 6] rfl) hR hS
      · have hf := x_in hc hf
        refine lv_iconst (v := 0) hx hb dL_law__866 rfl ?_
        cases hf
  · have hf := x_in hc hf
    refine lv_iconst (v := 0) hx hb dL_law__849 rfl ?_
    cases hf
def f_row11 (x : Nat) (h : XH) (a1 : Int32) : Option (XH) := Option.bind (f_L_later x h a1) (fun q1 => Option.bind (f_X12_later x q1.2 a1) (fun q2 => if (f_X12_thrown x q2.2) = q1.1 then if q1.1 = 0 then if x_b 0 1 = true then if (lg_cmp (q2.2.2.1 (x + 76) (0 : Int32).toNatClampNeg) q2.1.toInt64) = 0 then some q2.2 else none else none else some q2.2 else none))
set_option maxRecDepth 20000 in
theorem B_row11 {p : Program} {l : Launch} {e : Env} {s : State} {m : MethodId} {args : Array Value} {below : List Frame} {meth : Method} {c : Code} {O : XO} {K : XK} {h h' : XH} {b L i cells slots : Nat} {xs : Nat → Int32} {Q : State → Prop} {a1 : Int32} (C : x_C p s m args meth c O cL_law_ 8 RL (some .boolean)) (hst : l.stackTraces = false) (hX : va_X b L xs s s.heap) (hbl : b < s.heap.size) (hbA : ¬ oA O b) (hL : L ≤ 3072) (hi : i + 6 ≤ L) (ha1 : xs (i + 1) = a1) (hcl : cells + 40 ≤ room_1.cells) (hsl : slots + 900 ≤ room_1.slots) (ls : Array Slot) (H : Heap) (locs : List Loc) (hl : lv_has ls 8 [(0, .ref b), (1, .ref (oX O)), (2, .ref (oX O + 64)), (3, .ref (oX O + 76)), (4, .int (nI i))]) (hR : x_R O K h H) (hS : va_S (oA O) s.heap H locs) (hf : f_row11 (oX O) h a1 = some h') (kx : ∀ (ls : Array Slot) (H : Heap) (locs : List Loc), lv_has ls 8 [(0, .ref b), (1, .ref (oX O)), (2, .ref (oX O + 64)), (3, .ref (oX O + 76)), (4, .int (nI i))] → x_R O K h' H → va_S (oA O) s.heap H locs → W p l e room_1 s m args below meth c H locs (cells + 2) (slots + 12) Q (F0 m 2934 ls [])) : W p l e room_1 s m args below meth c H locs cells slots Q (F0 m 871 ls []) := by
  have hx := C.1
  have hb := C.2.1
  rw [f_row11] at hf
  refine lv_aload_n hx hb dL_law__871 rfl (lv_at hl 1 rfl) ?_
  refine lv_aload_n hx hb dL_law__872 rfl (lv_at hl 0 rfl) ?_
  refine lv_iload hx hb dL_law__873 (lv_at hl 4 rfl) ?_
  refine lv_iconst (v := 1) hx hb dL_law__875 rfl ?_
  refine lv_iadd hx hb dL_law__876 ?_
  refine x_sld C hX hbl hbA hS (i := i) (k := 1) rfl (by omega) hL ha1 dL_law__877 ?_
  refine lv_aload_n hx hb dL_law__878 rfl (lv_at hl 3 rfl) ?_
  obtain ⟨⟨r1, h1⟩, eq1, hf⟩ := x_bd hf
  refine x_callL C hR hS rfl (S_L_later hst eq1) lw_L_later tw_1019 (Nat.le_of_ble_eq_true rfl) (Nat.le_of_ble_eq_true rfl) (As := [.ref (oX O), .int a1, .ref (oX O + 76)]) rfl hl.1 (Nat.le_of_ble_eq_true rfl) dL_law__879 ⟨by show cells + 2 ≤ room_1.cells; omega, by show slots + 12 ≤ room_1.slots; omega⟩ rfl (fun H locs hR hS => ?_)
  refine lv_istore (lv' := [(5, _), (0, _), (1, _), (2, _), (3, _), (4, _)]) hx hb dL_law__882 hl (Nat.le_of_ble_eq_true rfl) rfl (fun ls hl => ?_)
  refine lv_aload_n hx hb dL_law__884 rfl (lv_at hl 3 rfl) ?_
  refine lv_aload_n hx hb dL_law__885 rfl (lv_at hl 1 rfl) ?_
  refine lv_iload hx hb dL_law__886 (lv_at hl 5 rfl) ?_
  refine lv_iconst (v := 1) hx hb dL_law__888 rfl ?_
  refine lv_iadd hx hb dL_law__889 ?_
  refine x_sld C hX hbl hbA hS (i := i) (k := 1) rfl (by omega) hL ha1 dL_law__890 ?_
  obtain ⟨q2, eq2, hf⟩ := x_bd hf
  refine x_cVi1 C hR hS (S_X12_later  eq2) (x_k hR 64 rfl) (by decide) rfl mf_X12_later tw_1837 (Nat.le_of_ble_eq_true rfl) (Nat.le_of_ble_eq_true rfl) hl.1 (Nat.le_of_ble_eq_true rfl) dL_law__891 ⟨by show cells + 2 ≤ room_1.cells; omega, by show slots + 12 ≤ room_1.slots; omega⟩ (fun H locs hR hS => ?_)
  refine lv_istore (lv' := [(6, _), (5, _), (0, _), (1, _), (2, _), (3, _), (4, _)]) hx hb dL_law__894 hl (Nat.le_of_ble_eq_true rfl) rfl (fun ls hl => ?_)
  refine lv_aload_n hx hb dL_law__896 rfl (lv_at hl 4 rfl) ?_
  refine x_cVi0 C hR hS (S_X12_thrown  rfl) (x_k hR 64 rfl) (by decide) rfl mf_X12_thrown tw_1533 (Nat.le_of_ble_eq_true rfl) (Nat.le_of_ble_eq_true rfl) hl.1 (Nat.le_of_ble_eq_true rfl) dL_law__897 ⟨by show cells + 2 ≤ room_1.cells; omega, by show slots + 12 ≤ room_1.slots; omega⟩ (fun H locs hR hS => ?_)
  refine lv_iload hx hb dL_law__900 (lv_at hl 1 rfl) ?_
  refine lv_icmp_eq (tgt := 907) hx hb dL_law__902 rfl (fun hc => ?_) (fun hc => ?_)
  · have hf := x_ip hc hf
    refine lv_iload hx hb dL_law__907 (lv_at hl 1 rfl) ?_
    refine lv_if_ne (tgt := 924) hx hb dL_law__909 rfl (fun hc => ?_) (fun hc => ?_)
    · have hf := x_in hc hf
      refine lv_goto (tgt := 2934) hx hb dL_law__924 rfl ?_
      cases hf
      exact kx ls _ _ (lv_sub hl [2, 3, 4, 5, 6] rfl) hR hS
    · have hf := x_ip hc hf
      refine lv_aload_n hx hb dL_law__912 rfl (lv_at hl 5 rfl) ?_
      refine lv_iconst (v := 0) hx hb dL_law__913 rfl ?_
      obtain ⟨g3, hf⟩ := x_gd hf
      refine x_lald C hR (x_k1 (x_k hR 76 rfl)) (x_k2 (x_k hR 76 rfl) g3) dL_law__914 ?_
      refine lv_iload hx hb dL_law__915 (lv_at hl 0 rfl) ?_
      refine lv_i2l hx hb dL_law__917 rfl ?_
      refine W.lcmp hx hb dL_law__918 ?_
      refine lv_if_eq (tgt := 924) hx hb dL_law__919 rfl (fun hc => ?_) (fun hc => ?_)
      · have hf := x_ip hc hf
        refine lv_goto (tgt := 2934) hx hb dL_law__924 rfl ?_
        cases hf
        exact kx ls _ _ (lv_sub hl [2, 3, 4, 5, 6] rfl) hR hS
      · have hf := x_in hc hf
        refine lv_iconst (v := 0) hx hb dL_law__922 rfl ?_
        cases hf
  · have hf := x_in hc hf
    refine lv_iconst (v := 0) hx hb dL_law__905 rfl ?_
    cases hf
def f_row12 (x : Nat) (h : XH) (a1 : Int32) (a2 : Int32) : Option (XH) := Option.bind (f_L_go x h a1 a2) (fun q1 => Option.bind (f_X12_go x q1.2 a1 a2) (fun q2 => if (f_X12_thrown x q2.2) = q1.1 then if q1.1 = 0 then if x_b 0 1 = true then if (lg_cmp (q2.2.2.1 (x + 76) (0 : Int32).toNatClampNeg) q2.1.toInt64) = 0 then some q2.2 else none else none else some q2.2 else none))
set_option maxRecDepth 20000 in
theorem B_row12 {p : Program} {l : Launch} {e : Env} {s : State} {m : MethodId} {args : Array Value} {below : List Frame} {meth : Method} {c : Code} {O : XO} {K : XK} {h h' : XH} {b L i cells slots : Nat} {xs : Nat → Int32} {Q : State → Prop} {a1 : Int32} {a2 : Int32} (C : x_C p s m args meth c O cL_law_ 8 RL (some .boolean)) (hst : l.stackTraces = false) (hX : va_X b L xs s s.heap) (hbl : b < s.heap.size) (hbA : ¬ oA O b) (hL : L ≤ 3072) (hi : i + 6 ≤ L) (ha1 : xs (i + 1) = a1) (ha2 : xs (i + 2) = a2) (hcl : cells + 40 ≤ room_1.cells) (hsl : slots + 900 ≤ room_1.slots) (ls : Array Slot) (H : Heap) (locs : List Loc) (hl : lv_has ls 8 [(0, .ref b), (1, .ref (oX O)), (2, .ref (oX O + 64)), (3, .ref (oX O + 76)), (4, .int (nI i))]) (hR : x_R O K h H) (hS : va_S (oA O) s.heap H locs) (hf : f_row12 (oX O) h a1 a2 = some h') (kx : ∀ (ls : Array Slot) (H : Heap) (locs : List Loc), lv_has ls 8 [(0, .ref b), (1, .ref (oX O)), (2, .ref (oX O + 64)), (3, .ref (oX O + 76)), (4, .int (nI i))] → x_R O K h' H → va_S (oA O) s.heap H locs → W p l e room_1 s m args below meth c H locs (cells + 4) (slots + 24) Q (F0 m 2934 ls [])) : W p l e room_1 s m args below meth c H locs cells slots Q (F0 m 927 ls []) := by
  have hx := C.1
  have hb := C.2.1
  rw [f_row12] at hf
  refine lv_aload_n hx hb dL_law__927 rfl (lv_at hl 1 rfl) ?_
  refine lv_aload_n hx hb dL_law__928 rfl (lv_at hl 0 rfl) ?_
  refine lv_iload hx hb dL_law__929 (lv_at hl 4 rfl) ?_
  refine lv_iconst (v := 1) hx hb dL_law__931 rfl ?_
  refine lv_iadd hx hb dL_law__932 ?_
  refine x_sld C hX hbl hbA hS (i := i) (k := 1) rfl (by omega) hL ha1 dL_law__933 ?_
  refine lv_aload_n hx hb dL_law__934 rfl (lv_at hl 0 rfl) ?_
  refine lv_iload hx hb dL_law__935 (lv_at hl 4 rfl) ?_
  refine lv_iconst (v := 2) hx hb dL_law__937 rfl ?_
  refine lv_iadd hx hb dL_law__938 ?_
  refine x_sld C hX hbl hbA hS (i := i) (k := 2) rfl (by omega) hL ha2 dL_law__939 ?_
  refine lv_aload_n hx hb dL_law__940 rfl (lv_at hl 3 rfl) ?_
  obtain ⟨⟨r1, h1⟩, eq1, hf⟩ := x_bd hf
  refine x_callL C hR hS rfl (S_L_go hst eq1) lw_L_go tw_1027 (Nat.le_of_ble_eq_true rfl) (Nat.le_of_ble_eq_true rfl) (As := [.ref (oX O), .int a1, .int a2, .ref (oX O + 76)]) rfl hl.1 (Nat.le_of_ble_eq_true rfl) dL_law__941 ⟨by show cells + 4 ≤ room_1.cells; omega, by show slots + 24 ≤ room_1.slots; omega⟩ rfl (fun H locs hR hS => ?_)
  refine lv_istore (lv' := [(5, _), (0, _), (1, _), (2, _), (3, _), (4, _)]) hx hb dL_law__944 hl (Nat.le_of_ble_eq_true rfl) rfl (fun ls hl => ?_)
  refine lv_aload_n hx hb dL_law__946 rfl (lv_at hl 3 rfl) ?_
  refine lv_aload_n hx hb dL_law__947 rfl (lv_at hl 1 rfl) ?_
  refine lv_iload hx hb dL_law__948 (lv_at hl 5 rfl) ?_
  refine lv_iconst (v := 1) hx hb dL_law__950 rfl ?_
  refine lv_iadd hx hb dL_law__951 ?_
  refine x_sld C hX hbl hbA hS (i := i) (k := 1) rfl (by omega) hL ha1 dL_law__952 ?_
  refine lv_aload_n hx hb dL_law__953 rfl (lv_at hl 1 rfl) ?_
  refine lv_iload hx hb dL_law__954 (lv_at hl 5 rfl) ?_
  refine lv_iconst (v := 2) hx hb dL_law__956 rfl ?_
  refine lv_iadd hx hb dL_law__957 ?_
  refine x_sld C hX hbl hbA hS (i := i) (k := 2) rfl (by omega) hL ha2 dL_law__958 ?_
  obtain ⟨q2, eq2, hf⟩ := x_bd hf
  refine x_cVi2 C hR hS (S_X12_go  eq2) (x_k hR 64 rfl) (by decide) rfl mf_X12_go tw_1841 (Nat.le_of_ble_eq_true rfl) (Nat.le_of_ble_eq_true rfl) hl.1 (Nat.le_of_ble_eq_true rfl) dL_law__959 ⟨by show cells + 4 ≤ room_1.cells; omega, by show slots + 24 ≤ room_1.slots; omega⟩ (fun H locs hR hS => ?_)
  refine lv_istore (lv' := [(6, _), (5, _), (0, _), (1, _), (2, _), (3, _), (4, _)]) hx hb dL_law__962 hl (Nat.le_of_ble_eq_true rfl) rfl (fun ls hl => ?_)
  refine lv_aload_n hx hb dL_law__964 rfl (lv_at hl 4 rfl) ?_
  refine x_cVi0 C hR hS (S_X12_thrown  rfl) (x_k hR 64 rfl) (by decide) rfl mf_X12_thrown tw_1533 (Nat.le_of_ble_eq_true rfl) (Nat.le_of_ble_eq_true rfl) hl.1 (Nat.le_of_ble_eq_true rfl) dL_law__965 ⟨by show cells + 4 ≤ room_1.cells; omega, by show slots + 24 ≤ room_1.slots; omega⟩ (fun H locs hR hS => ?_)
  refine lv_iload hx hb dL_law__968 (lv_at hl 1 rfl) ?_
  refine lv_icmp_eq (tgt := 975) hx hb dL_law__970 rfl (fun hc => ?_) (fun hc => ?_)
  · have hf := x_ip hc hf
    refine lv_iload hx hb dL_law__975 (lv_at hl 1 rfl) ?_
    refine lv_if_ne (tgt := 992) hx hb dL_law__977 rfl (fun hc => ?_) (fun hc => ?_)
    · have hf := x_in hc hf
      refine lv_goto (tgt := 2934) hx hb dL_law__992 rfl ?_
      cases hf
      exact kx ls _ _ (lv_sub hl [2, 3, 4, 5, 6] rfl) hR hS
    · have hf := x_ip hc hf
      refine lv_aload_n hx hb dL_law__980 rfl (lv_at hl 5 rfl) ?_
      refine lv_iconst (v := 0) hx hb dL_law__981 rfl ?_
      obtain ⟨g3, hf⟩ := x_gd hf
      refine x_lald C hR (x_k1 (x_k hR 76 rfl)) (x_k2 (x_k hR 76 rfl) g3) dL_law__982 ?_
      refine lv_iload hx hb dL_law__983 (lv_at hl 0 rfl) ?_
      refine lv_i2l hx hb dL_law__985 rfl ?_
      refine W.lcmp hx hb dL_law__986 ?_
      refine lv_if_eq (tgt := 992) hx hb dL_law__987 rfl (fun hc => ?_) (fun hc => ?_)
      · have hf := x_ip hc hf
        refine lv_goto (tgt := 2934) hx hb dL_law__992 rfl ?_
        cases hf
        exact kx ls _ _ (lv_sub hl [2, 3, 4, 5, 6] rfl) hR hS
      · have hf := x_in hc hf
        refine lv_iconst (v := 0) hx hb dL_law__990 rfl ?_
        cases hf
  · have hf := x_in hc hf
    refine lv_iconst (v := 0) hx hb dL_law__973 rfl ?_
    cases hf
def f_row13 (x : Nat) (h : XH) (a1 : Int32) (a2 : Int32) (a3 : Int32) : Option (XH) := Option.bind (f_L_about x h a1 a2 a3) (fun q1 => Option.bind (f_X12_about x q1.2 a1 a2 a3) (fun q2 => if (f_X12_thrown x q2.2) = q1.1 then if q1.1 = 0 then if x_b 0 1 = true then if (lg_cmp (q2.2.2.1 (x + 76) (0 : Int32).toNatClampNeg) q2.1.toInt64) = 0 then some q2.2 else none else none else some q2.2 else none))
set_option maxRecDepth 20000 in
theorem B_row13 {p : Program} {l : Launch} {e : Env} {s : State} {m : MethodId} {args : Array Value} {below : List Frame} {meth : Method} {c : Code} {O : XO} {K : XK} {h h' : XH} {b L i cells slots : Nat} {xs : Nat → Int32} {Q : State → Prop} {a1 : Int32} {a2 : Int32} {a3 : Int32} (C : x_C p s m args meth c O cL_law_ 8 RL (some .boolean)) (hst : l.stackTraces = false) (hX : va_X b L xs s s.heap) (hbl : b < s.heap.size) (hbA : ¬ oA O b) (hL : L ≤ 3072) (hi : i + 6 ≤ L) (ha1 : xs (i + 1) = a1) (ha2 : xs (i + 2) = a2) (ha3 : xs (i + 3) = a3) (hcl : cells + 40 ≤ room_1.cells) (hsl : slots + 900 ≤ room_1.slots) (ls : Array Slot) (H : Heap) (locs : List Loc) (hl : lv_has ls 8 [(0, .ref b), (1, .ref (oX O)), (2, .ref (oX O + 64)), (3, .ref (oX O + 76)), (4, .int (nI i))]) (hR : x_R O K h H) (hS : va_S (oA O) s.heap H locs) (hf : f_row13 (oX O) h a1 a2 a3 = some h') (kx : ∀ (ls : Array Slot) (H : Heap) (locs : List Loc), lv_has ls 8 [(0, .ref b), (1, .ref (oX O)), (2, .ref (oX O + 64)), (3, .ref (oX O + 76)), (4, .int (nI i))] → x_R O K h' H → va_S (oA O) s.heap H locs → W p l e room_1 s m args below meth c H locs (cells + 5) (slots + 30) Q (F0 m 2934 ls [])) : W p l e room_1 s m args below meth c H locs cells slots Q (F0 m 995 ls []) := by
  have hx := C.1
  have hb := C.2.1
  rw [f_row13] at hf
  refine lv_aload_n hx hb dL_law__995 rfl (lv_at hl 1 rfl) ?_
  refine lv_aload_n hx hb dL_law__996 rfl (lv_at hl 0 rfl) ?_
  refine lv_iload hx hb dL_law__997 (lv_at hl 4 rfl) ?_
  refine lv_iconst (v := 1) hx hb dL_law__999 rfl ?_
  refine lv_iadd hx hb dL_law__1000 ?_
  refine x_sld C hX hbl hbA hS (i := i) (k := 1) rfl (by omega) hL ha1 dL_law__1001 ?_
  refine lv_aload_n hx hb dL_law__1002 rfl (lv_at hl 0 rfl) ?_
  refine lv_iload hx hb dL_law__1003 (lv_at hl 4 rfl) ?_
  refine lv_iconst (v := 2) hx hb dL_law__1005 rfl ?_
  refine lv_iadd hx hb dL_law__1006 ?_
  refine x_sld C hX hbl hbA hS (i := i) (k := 2) rfl (by omega) hL ha2 dL_law__1007 ?_
  refine lv_aload_n hx hb dL_law__1008 rfl (lv_at hl 0 rfl) ?_
  refine lv_iload hx hb dL_law__1009 (lv_at hl 4 rfl) ?_
  refine lv_iconst (v := 3) hx hb dL_law__1011 rfl ?_
  refine lv_iadd hx hb dL_law__1012 ?_
  refine x_sld C hX hbl hbA hS (i := i) (k := 3) rfl (by omega) hL ha3 dL_law__1013 ?_
  refine lv_aload_n hx hb dL_law__1014 rfl (lv_at hl 3 rfl) ?_
  obtain ⟨⟨r1, h1⟩, eq1, hf⟩ := x_bd hf
  refine x_callL C hR hS rfl (S_L_about hst eq1) lw_L_about tw_1044 (Nat.le_of_ble_eq_true rfl) (Nat.le_of_ble_eq_true rfl) (As := [.ref (oX O), .int a1, .int a2, .int a3, .ref (oX O + 76)]) rfl hl.1 (Nat.le_of_ble_eq_true rfl) dL_law__1015 ⟨by show cells + 5 ≤ room_1.cells; omega, by show slots + 30 ≤ room_1.slots; omega⟩ rfl (fun H locs hR hS => ?_)
  refine lv_istore (lv' := [(5, _), (0, _), (1, _), (2, _), (3, _), (4, _)]) hx hb dL_law__1018 hl (Nat.le_of_ble_eq_true rfl) rfl (fun ls hl => ?_)
  refine lv_aload_n hx hb dL_law__1020 rfl (lv_at hl 3 rfl) ?_
  refine lv_aload_n hx hb dL_law__1021 rfl (lv_at hl 1 rfl) ?_
  refine lv_iload hx hb dL_law__1022 (lv_at hl 5 rfl) ?_
  refine lv_iconst (v := 1) hx hb dL_law__1024 rfl ?_
  refine lv_iadd hx hb dL_law__1025 ?_
  refine x_sld C hX hbl hbA hS (i := i) (k := 1) rfl (by omega) hL ha1 dL_law__1026 ?_
  refine lv_aload_n hx hb dL_law__1027 rfl (lv_at hl 1 rfl) ?_
  refine lv_iload hx hb dL_law__1028 (lv_at hl 5 rfl) ?_
  refine lv_iconst (v := 2) hx hb dL_law__1030 rfl ?_
  refine lv_iadd hx hb dL_law__1031 ?_
  refine x_sld C hX hbl hbA hS (i := i) (k := 2) rfl (by omega) hL ha2 dL_law__1032 ?_
  refine lv_aload_n hx hb dL_law__1033 rfl (lv_at hl 1 rfl) ?_
  refine lv_iload hx hb dL_law__1034 (lv_at hl 5 rfl) ?_
  refine lv_iconst (v := 3) hx hb dL_law__1036 rfl ?_
  refine lv_iadd hx hb dL_law__1037 ?_
  refine x_sld C hX hbl hbA hS (i := i) (k := 3) rfl (by omega) hL ha3 dL_law__1038 ?_
  obtain ⟨q2, eq2, hf⟩ := x_bd hf
  refine x_cVi3 C hR hS (S_X12_about  eq2) (x_k hR 64 rfl) (by decide) rfl mf_X12_about tw_1845 (Nat.le_of_ble_eq_true rfl) (Nat.le_of_ble_eq_true rfl) hl.1 (Nat.le_of_ble_eq_true rfl) dL_law__1039 ⟨by show cells + 5 ≤ room_1.cells; omega, by show slots + 30 ≤ room_1.slots; omega⟩ (fun H locs hR hS => ?_)
  refine lv_istore (lv' := [(6, _), (5, _), (0, _), (1, _), (2, _), (3, _), (4, _)]) hx hb dL_law__1042 hl (Nat.le_of_ble_eq_true rfl) rfl (fun ls hl => ?_)
  refine lv_aload_n hx hb dL_law__1044 rfl (lv_at hl 4 rfl) ?_
  refine x_cVi0 C hR hS (S_X12_thrown  rfl) (x_k hR 64 rfl) (by decide) rfl mf_X12_thrown tw_1533 (Nat.le_of_ble_eq_true rfl) (Nat.le_of_ble_eq_true rfl) hl.1 (Nat.le_of_ble_eq_true rfl) dL_law__1045 ⟨by show cells + 5 ≤ room_1.cells; omega, by show slots + 30 ≤ room_1.slots; omega⟩ (fun H locs hR hS => ?_)
  refine lv_iload hx hb dL_law__1048 (lv_at hl 1 rfl) ?_
  refine lv_icmp_eq (tgt := 1055) hx hb dL_law__1050 rfl (fun hc => ?_) (fun hc => ?_)
  · have hf := x_ip hc hf
    refine lv_iload hx hb dL_law__1055 (lv_at hl 1 rfl) ?_
    refine lv_if_ne (tgt := 1072) hx hb dL_law__1057 rfl (fun hc => ?_) (fun hc => ?_)
    · have hf := x_in hc hf
      refine lv_goto (tgt := 2934) hx hb dL_law__1072 rfl ?_
      cases hf
      exact kx ls _ _ (lv_sub hl [2, 3, 4, 5, 6] rfl) hR hS
    · have hf := x_ip hc hf
      refine lv_aload_n hx hb dL_law__1060 rfl (lv_at hl 5 rfl) ?_
      refine lv_iconst (v := 0) hx hb dL_law__1061 rfl ?_
      obtain ⟨g3, hf⟩ := x_gd hf
      refine x_lald C hR (x_k1 (x_k hR 76 rfl)) (x_k2 (x_k hR 76 rfl) g3) dL_law__1062 ?_
      refine lv_iload hx hb dL_law__1063 (lv_at hl 0 rfl) ?_
      refine lv_i2l hx hb dL_law__1065 rfl ?_
      refine W.lcmp hx hb dL_law__1066 ?_
      refine lv_if_eq (tgt := 1072) hx hb dL_law__1067 rfl (fun hc => ?_) (fun hc => ?_)
      · have hf := x_ip hc hf
        refine lv_goto (tgt := 2934) hx hb dL_law__1072 rfl ?_
        cases hf
        exact kx ls _ _ (lv_sub hl [2, 3, 4, 5, 6] rfl) hR hS
      · have hf := x_in hc hf
        refine lv_iconst (v := 0) hx hb dL_law__1070 rfl ?_
        cases hf
  · have hf := x_in hc hf
    refine lv_iconst (v := 0) hx hb dL_law__1053 rfl ?_
    cases hf
def f_row14 (K : XK) (x : Nat) (h : XH) (a1 : Int32) (a2 : Int32) (a3 : Int32) : Option (XH) := Option.bind (f_L_holds K x h a1 a2 a3) (fun q1 => Option.bind (f_X12_holds x q1.2 a1 a2 a3) (fun q2 => if (f_X12_thrown x q2.2) = q1.1 then if q1.1 = 0 then if x_b 0 1 = true then if (lg_cmp (q2.2.2.1 (x + 76) (0 : Int32).toNatClampNeg) q2.1.toInt64) = 0 then some q2.2 else none else none else some q2.2 else none))
set_option maxRecDepth 20000 in
theorem B_row14 {p : Program} {l : Launch} {e : Env} {s : State} {m : MethodId} {args : Array Value} {below : List Frame} {meth : Method} {c : Code} {O : XO} {K : XK} {h h' : XH} {b L i cells slots : Nat} {xs : Nat → Int32} {Q : State → Prop} {a1 : Int32} {a2 : Int32} {a3 : Int32} (C : x_C p s m args meth c O cL_law_ 8 RL (some .boolean)) (hst : l.stackTraces = false) (hX : va_X b L xs s s.heap) (hbl : b < s.heap.size) (hbA : ¬ oA O b) (hL : L ≤ 3072) (hi : i + 6 ≤ L) (ha1 : xs (i + 1) = a1) (ha2 : xs (i + 2) = a2) (ha3 : xs (i + 3) = a3) (hcl : cells + 40 ≤ room_1.cells) (hsl : slots + 900 ≤ room_1.slots) (ls : Array Slot) (H : Heap) (locs : List Loc) (hl : lv_has ls 8 [(0, .ref b), (1, .ref (oX O)), (2, .ref (oX O + 64)), (3, .ref (oX O + 76)), (4, .int (nI i))]) (hR : x_R O K h H) (hS : va_S (oA O) s.heap H locs) (hf : f_row14 K (oX O) h a1 a2 a3 = some h') (kx : ∀ (ls : Array Slot) (H : Heap) (locs : List Loc), lv_has ls 8 [(0, .ref b), (1, .ref (oX O)), (2, .ref (oX O + 64)), (3, .ref (oX O + 76)), (4, .int (nI i))] → x_R O K h' H → va_S (oA O) s.heap H locs → W p l e room_1 s m args below meth c H locs (cells + 5) (slots + 30) Q (F0 m 2934 ls [])) : W p l e room_1 s m args below meth c H locs cells slots Q (F0 m 1075 ls []) := by
  have hx := C.1
  have hb := C.2.1
  rw [f_row14] at hf
  refine lv_aload_n hx hb dL_law__1075 rfl (lv_at hl 1 rfl) ?_
  refine lv_aload_n hx hb dL_law__1076 rfl (lv_at hl 0 rfl) ?_
  refine lv_iload hx hb dL_law__1077 (lv_at hl 4 rfl) ?_
  refine lv_iconst (v := 1) hx hb dL_law__1079 rfl ?_
  refine lv_iadd hx hb dL_law__1080 ?_
  refine x_sld C hX hbl hbA hS (i := i) (k := 1) rfl (by omega) hL ha1 dL_law__1081 ?_
  refine lv_aload_n hx hb dL_law__1082 rfl (lv_at hl 0 rfl) ?_
  refine lv_iload hx hb dL_law__1083 (lv_at hl 4 rfl) ?_
  refine lv_iconst (v := 2) hx hb dL_law__1085 rfl ?_
  refine lv_iadd hx hb dL_law__1086 ?_
  refine x_sld C hX hbl hbA hS (i := i) (k := 2) rfl (by omega) hL ha2 dL_law__1087 ?_
  refine lv_aload_n hx hb dL_law__1088 rfl (lv_at hl 0 rfl) ?_
  refine lv_iload hx hb dL_law__1089 (lv_at hl 4 rfl) ?_
  refine lv_iconst (v := 3) hx hb dL_law__1091 rfl ?_
  refine lv_iadd hx hb dL_law__1092 ?_
  refine x_sld C hX hbl hbA hS (i := i) (k := 3) rfl (by omega) hL ha3 dL_law__1093 ?_
  refine lv_aload_n hx hb dL_law__1094 rfl (lv_at hl 3 rfl) ?_
  obtain ⟨⟨r1, h1⟩, eq1, hf⟩ := x_bd hf
  refine x_callL C hR hS rfl (S_L_holds hst eq1) lw_L_holds tw_1095 (Nat.le_of_ble_eq_true rfl) (Nat.le_of_ble_eq_true rfl) (As := [.ref (oX O), .int a1, .int a2, .int a3, .ref (oX O + 76)]) rfl hl.1 (Nat.le_of_ble_eq_true rfl) dL_law__1095 ⟨by show cells + 5 ≤ room_1.cells; omega, by show slots + 30 ≤ room_1.slots; omega⟩ rfl (fun H locs hR hS => ?_)
  refine lv_istore (lv' := [(5, _), (0, _), (1, _), (2, _), (3, _), (4, _)]) hx hb dL_law__1098 hl (Nat.le_of_ble_eq_true rfl) rfl (fun ls hl => ?_)
  refine lv_aload_n hx hb dL_law__1100 rfl (lv_at hl 3 rfl) ?_
  refine lv_aload_n hx hb dL_law__1101 rfl (lv_at hl 1 rfl) ?_
  refine lv_iload hx hb dL_law__1102 (lv_at hl 5 rfl) ?_
  refine lv_iconst (v := 1) hx hb dL_law__1104 rfl ?_
  refine lv_iadd hx hb dL_law__1105 ?_
  refine x_sld C hX hbl hbA hS (i := i) (k := 1) rfl (by omega) hL ha1 dL_law__1106 ?_
  refine lv_aload_n hx hb dL_law__1107 rfl (lv_at hl 1 rfl) ?_
  refine lv_iload hx hb dL_law__1108 (lv_at hl 5 rfl) ?_
  refine lv_iconst (v := 2) hx hb dL_law__1110 rfl ?_
  refine lv_iadd hx hb dL_law__1111 ?_
  refine x_sld C hX hbl hbA hS (i := i) (k := 2) rfl (by omega) hL ha2 dL_law__1112 ?_
  refine lv_aload_n hx hb dL_law__1113 rfl (lv_at hl 1 rfl) ?_
  refine lv_iload hx hb dL_law__1114 (lv_at hl 5 rfl) ?_
  refine lv_iconst (v := 3) hx hb dL_law__1116 rfl ?_
  refine lv_iadd hx hb dL_law__1117 ?_
  refine x_sld C hX hbl hbA hS (i := i) (k := 3) rfl (by omega) hL ha3 dL_law__1118 ?_
  obtain ⟨q2, eq2, hf⟩ := x_bd hf
  refine x_cVi3 C hR hS (S_X12_holds  eq2) (x_k hR 64 rfl) (by decide) rfl mf_X12_holds tw_1877 (Nat.le_of_ble_eq_true rfl) (Nat.le_of_ble_eq_true rfl) hl.1 (Nat.le_of_ble_eq_true rfl) dL_law__1119 ⟨by show cells + 5 ≤ room_1.cells; omega, by show slots + 30 ≤ room_1.slots; omega⟩ (fun H locs hR hS => ?_)
  refine lv_istore (lv' := [(6, _), (5, _), (0, _), (1, _), (2, _), (3, _), (4, _)]) hx hb dL_law__1122 hl (Nat.le_of_ble_eq_true rfl) rfl (fun ls hl => ?_)
  refine lv_aload_n hx hb dL_law__1124 rfl (lv_at hl 4 rfl) ?_
  refine x_cVi0 C hR hS (S_X12_thrown  rfl) (x_k hR 64 rfl) (by decide) rfl mf_X12_thrown tw_1533 (Nat.le_of_ble_eq_true rfl) (Nat.le_of_ble_eq_true rfl) hl.1 (Nat.le_of_ble_eq_true rfl) dL_law__1125 ⟨by show cells + 5 ≤ room_1.cells; omega, by show slots + 30 ≤ room_1.slots; omega⟩ (fun H locs hR hS => ?_)
  refine lv_iload hx hb dL_law__1128 (lv_at hl 1 rfl) ?_
  refine lv_icmp_eq (tgt := 1135) hx hb dL_law__1130 rfl (fun hc => ?_) (fun hc => ?_)
  · have hf := x_ip hc hf
    refine lv_iload hx hb dL_law__1135 (lv_at hl 1 rfl) ?_
    refine lv_if_ne (tgt := 1152) hx hb dL_law__1137 rfl (fun hc => ?_) (fun hc => ?_)
    · have hf := x_in hc hf
      refine lv_goto (tgt := 2934) hx hb dL_law__1152 rfl ?_
      cases hf
      exact kx ls _ _ (lv_sub hl [2, 3, 4, 5, 6] rfl) hR hS
    · have hf := x_ip hc hf
      refine lv_aload_n hx hb dL_law__1140 rfl (lv_at hl 5 rfl) ?_
      refine lv_iconst (v := 0) hx hb dL_law__1141 rfl ?_
      obtain ⟨g3, hf⟩ := x_gd hf
      refine x_lald C hR (x_k1 (x_k hR 76 rfl)) (x_k2 (x_k hR 76 rfl) g3) dL_law__1142 ?_
      refine lv_iload hx hb dL_law__1143 (lv_at hl 0 rfl) ?_
      refine lv_i2l hx hb dL_law__1145 rfl ?_
      refine W.lcmp hx hb dL_law__1146 ?_
      refine lv_if_eq (tgt := 1152) hx hb dL_law__1147 rfl (fun hc => ?_) (fun hc => ?_)
      · have hf := x_ip hc hf
        refine lv_goto (tgt := 2934) hx hb dL_law__1152 rfl ?_
        cases hf
        exact kx ls _ _ (lv_sub hl [2, 3, 4, 5, 6] rfl) hR hS
      · have hf := x_in hc hf
        refine lv_iconst (v := 0) hx hb dL_law__1150 rfl ?_
        cases hf
  · have hf := x_in hc hf
    refine lv_iconst (v := 0) hx hb dL_law__1133 rfl ?_
    cases hf
def f_row15 (K : XK) (x : Nat) (h : XH) (a1 : Int32) (a2 : Int32) : Option (XH) := Option.bind (f_L_awaited K x h a1 a2) (fun q1 => Option.bind (f_X12_awaited x q1.2 a1 a2) (fun q2 => if (f_X12_thrown x q2.2) = q1.1 then if q1.1 = 0 then if x_b 0 1 = true then if (lg_cmp (q2.2.2.1 (x + 76) (0 : Int32).toNatClampNeg) q2.1.toInt64) = 0 then some q2.2 else none else none else some q2.2 else none))
set_option maxRecDepth 20000 in
theorem B_row15 {p : Program} {l : Launch} {e : Env} {s : State} {m : MethodId} {args : Array Value} {below : List Frame} {meth : Method} {c : Code} {O : XO} {K : XK} {h h' : XH} {b L i cells slots : Nat} {xs : Nat → Int32} {Q : State → Prop} {a1 : Int32} {a2 : Int32} (C : x_C p s m args meth c O cL_law_ 8 RL (some .boolean)) (hst : l.stackTraces = false) (hX : va_X b L xs s s.heap) (hbl : b < s.heap.size) (hbA : ¬ oA O b) (hL : L ≤ 3072) (hi : i + 6 ≤ L) (ha1 : xs (i + 1) = a1) (ha2 : xs (i + 2) = a2) (hcl : cells + 40 ≤ room_1.cells) (hsl : slots + 900 ≤ room_1.slots) (ls : Array Slot) (H : Heap) (locs : List Loc) (hl : lv_has ls 8 [(0, .ref b), (1, .ref (oX O)), (2, .ref (oX O + 64)), (3, .ref (oX O + 76)), (4, .int (nI i))]) (hR : x_R O K h H) (hS : va_S (oA O) s.heap H locs) (hf : f_row15 K (oX O) h a1 a2 = some h') (kx : ∀ (ls : Array Slot) (H : Heap) (locs : List Loc), lv_has ls 8 [(0, .ref b), (1, .ref (oX O)), (2, .ref (oX O + 64)), (3, .ref (oX O + 76)), (4, .int (nI i))] → x_R O K h' H → va_S (oA O) s.heap H locs → W p l e room_1 s m args below meth c H locs (cells + 3) (slots + 18) Q (F0 m 2934 ls [])) : W p l e room_1 s m args below meth c H locs cells slots Q (F0 m 1155 ls []) := by
  have hx := C.1
  have hb := C.2.1
  rw [f_row15] at hf
  refine lv_aload_n hx hb dL_law__1155 rfl (lv_at hl 1 rfl) ?_
  refine lv_aload_n hx hb dL_law__1156 rfl (lv_at hl 0 rfl) ?_
  refine lv_iload hx hb dL_law__1157 (lv_at hl 4 rfl) ?_
  refine lv_iconst (v := 1) hx hb dL_law__1159 rfl ?_
  refine lv_iadd hx hb dL_law__1160 ?_
  refine x_sld C hX hbl hbA hS (i := i) (k := 1) rfl (by omega) hL ha1 dL_law__1161 ?_
  refine lv_aload_n hx hb dL_law__1162 rfl (lv_at hl 0 rfl) ?_
  refine lv_iload hx hb dL_law__1163 (lv_at hl 4 rfl) ?_
  refine lv_iconst (v := 2) hx hb dL_law__1165 rfl ?_
  refine lv_iadd hx hb dL_law__1166 ?_
  refine x_sld C hX hbl hbA hS (i := i) (k := 2) rfl (by omega) hL ha2 dL_law__1167 ?_
  refine lv_aload_n hx hb dL_law__1168 rfl (lv_at hl 3 rfl) ?_
  obtain ⟨⟨r1, h1⟩, eq1, hf⟩ := x_bd hf
  refine x_callL C hR hS rfl (S_L_awaited hst eq1) lw_L_awaited tw_1138 (Nat.le_of_ble_eq_true rfl) (Nat.le_of_ble_eq_true rfl) (As := [.ref (oX O), .int a1, .int a2, .ref (oX O + 76)]) rfl hl.1 (Nat.le_of_ble_eq_true rfl) dL_law__1169 ⟨by show cells + 3 ≤ room_1.cells; omega, by show slots + 18 ≤ room_1.slots; omega⟩ rfl (fun H locs hR hS => ?_)
  refine lv_istore (lv' := [(5, _), (0, _), (1, _), (2, _), (3, _), (4, _)]) hx hb dL_law__1172 hl (Nat.le_of_ble_eq_true rfl) rfl (fun ls hl => ?_)
  refine lv_aload_n hx hb dL_law__1174 rfl (lv_at hl 3 rfl) ?_
  refine lv_aload_n hx hb dL_law__1175 rfl (lv_at hl 1 rfl) ?_
  refine lv_iload hx hb dL_law__1176 (lv_at hl 5 rfl) ?_
  refine lv_iconst (v := 1) hx hb dL_law__1178 rfl ?_
  refine lv_iadd hx hb dL_law__1179 ?_
  refine x_sld C hX hbl hbA hS (i := i) (k := 1) rfl (by omega) hL ha1 dL_law__1180 ?_
  refine lv_aload_n hx hb dL_law__1181 rfl (lv_at hl 1 rfl) ?_
  refine lv_iload hx hb dL_law__1182 (lv_at hl 5 rfl) ?_
  refine lv_iconst (v := 2) hx hb dL_law__1184 rfl ?_
  refine lv_iadd hx hb dL_law__1185 ?_
  refine x_sld C hX hbl hbA hS (i := i) (k := 2) rfl (by omega) hL ha2 dL_law__1186 ?_
  obtain ⟨q2, eq2, hf⟩ := x_bd hf
  refine x_cVi2 C hR hS (S_X12_awaited  eq2) (x_k hR 64 rfl) (by decide) rfl mf_X12_awaited tw_1903 (Nat.le_of_ble_eq_true rfl) (Nat.le_of_ble_eq_true rfl) hl.1 (Nat.le_of_ble_eq_true rfl) dL_law__1187 ⟨by show cells + 3 ≤ room_1.cells; omega, by show slots + 18 ≤ room_1.slots; omega⟩ (fun H locs hR hS => ?_)
  refine lv_istore (lv' := [(6, _), (5, _), (0, _), (1, _), (2, _), (3, _), (4, _)]) hx hb dL_law__1190 hl (Nat.le_of_ble_eq_true rfl) rfl (fun ls hl => ?_)
  refine lv_aload_n hx hb dL_law__1192 rfl (lv_at hl 4 rfl) ?_
  refine x_cVi0 C hR hS (S_X12_thrown  rfl) (x_k hR 64 rfl) (by decide) rfl mf_X12_thrown tw_1533 (Nat.le_of_ble_eq_true rfl) (Nat.le_of_ble_eq_true rfl) hl.1 (Nat.le_of_ble_eq_true rfl) dL_law__1193 ⟨by show cells + 3 ≤ room_1.cells; omega, by show slots + 18 ≤ room_1.slots; omega⟩ (fun H locs hR hS => ?_)
  refine lv_iload hx hb dL_law__1196 (lv_at hl 1 rfl) ?_
  refine lv_icmp_eq (tgt := 1203) hx hb dL_law__1198 rfl (fun hc => ?_) (fun hc => ?_)
  · have hf := x_ip hc hf
    refine lv_iload hx hb dL_law__1203 (lv_at hl 1 rfl) ?_
    refine lv_if_ne (tgt := 1220) hx hb dL_law__1205 rfl (fun hc => ?_) (fun hc => ?_)
    · have hf := x_in hc hf
      refine lv_goto (tgt := 2934) hx hb dL_law__1220 rfl ?_
      cases hf
      exact kx ls _ _ (lv_sub hl [2, 3, 4, 5, 6] rfl) hR hS
    · have hf := x_ip hc hf
      refine lv_aload_n hx hb dL_law__1208 rfl (lv_at hl 5 rfl) ?_
      refine lv_iconst (v := 0) hx hb dL_law__1209 rfl ?_
      obtain ⟨g3, hf⟩ := x_gd hf
      refine x_lald C hR (x_k1 (x_k hR 76 rfl)) (x_k2 (x_k hR 76 rfl) g3) dL_law__1210 ?_
      refine lv_iload hx hb dL_law__1211 (lv_at hl 0 rfl) ?_
      refine lv_i2l hx hb dL_law__1213 rfl ?_
      refine W.lcmp hx hb dL_law__1214 ?_
      refine lv_if_eq (tgt := 1220) hx hb dL_law__1215 rfl (fun hc => ?_) (fun hc => ?_)
      · have hf := x_ip hc hf
        refine lv_goto (tgt := 2934) hx hb dL_law__1220 rfl ?_
        cases hf
        exact kx ls _ _ (lv_sub hl [2, 3, 4, 5, 6] rfl) hR hS
      · have hf := x_in hc hf
        refine lv_iconst (v := 0) hx hb dL_law__1218 rfl ?_
        cases hf
  · have hf := x_in hc hf
    refine lv_iconst (v := 0) hx hb dL_law__1201 rfl ?_
    cases hf
def f_row16 (x : Nat) (h : XH) (a1 : Int32) (a2 : Int32) (a3 : Int32) : Option (XH) := Option.bind (f_L_say x h a1 a2 a3) (fun q1 => Option.bind (f_X12_say x q1.2 a1 a2 a3) (fun q2 => if (f_X12_thrown x q2.2) = q1.1 then if q1.1 = 0 then if x_b 0 1 = true then if (lg_cmp (q2.2.2.1 (x + 76) (0 : Int32).toNatClampNeg) q2.1.toInt64) = 0 then some q2.2 else none else none else some q2.2 else none))
set_option maxRecDepth 20000 in
theorem B_row16 {p : Program} {l : Launch} {e : Env} {s : State} {m : MethodId} {args : Array Value} {below : List Frame} {meth : Method} {c : Code} {O : XO} {K : XK} {h h' : XH} {b L i cells slots : Nat} {xs : Nat → Int32} {Q : State → Prop} {a1 : Int32} {a2 : Int32} {a3 : Int32} (C : x_C p s m args meth c O cL_law_ 8 RL (some .boolean)) (hst : l.stackTraces = false) (hX : va_X b L xs s s.heap) (hbl : b < s.heap.size) (hbA : ¬ oA O b) (hL : L ≤ 3072) (hi : i + 6 ≤ L) (ha1 : xs (i + 1) = a1) (ha2 : xs (i + 2) = a2) (ha3 : xs (i + 3) = a3) (hcl : cells + 40 ≤ room_1.cells) (hsl : slots + 900 ≤ room_1.slots) (ls : Array Slot) (H : Heap) (locs : List Loc) (hl : lv_has ls 8 [(0, .ref b), (1, .ref (oX O)), (2, .ref (oX O + 64)), (3, .ref (oX O + 76)), (4, .int (nI i))]) (hR : x_R O K h H) (hS : va_S (oA O) s.heap H locs) (hf : f_row16 (oX O) h a1 a2 a3 = some h') (kx : ∀ (ls : Array Slot) (H : Heap) (locs : List Loc), lv_has ls 8 [(0, .ref b), (1, .ref (oX O)), (2, .ref (oX O + 64)), (3, .ref (oX O + 76)), (4, .int (nI i))] → x_R O K h' H → va_S (oA O) s.heap H locs → W p l e room_1 s m args below meth c H locs (cells + 5) (slots + 30) Q (F0 m 2934 ls [])) : W p l e room_1 s m args below meth c H locs cells slots Q (F0 m 1223 ls []) := by
  have hx := C.1
  have hb := C.2.1
  rw [f_row16] at hf
  refine lv_aload_n hx hb dL_law__1223 rfl (lv_at hl 1 rfl) ?_
  refine lv_aload_n hx hb dL_law__1224 rfl (lv_at hl 0 rfl) ?_
  refine lv_iload hx hb dL_law__1225 (lv_at hl 4 rfl) ?_
  refine lv_iconst (v := 1) hx hb dL_law__1227 rfl ?_
  refine lv_iadd hx hb dL_law__1228 ?_
  refine x_sld C hX hbl hbA hS (i := i) (k := 1) rfl (by omega) hL ha1 dL_law__1229 ?_
  refine lv_aload_n hx hb dL_law__1230 rfl (lv_at hl 0 rfl) ?_
  refine lv_iload hx hb dL_law__1231 (lv_at hl 4 rfl) ?_
  refine lv_iconst (v := 2) hx hb dL_law__1233 rfl ?_
  refine lv_iadd hx hb dL_law__1234 ?_
  refine x_sld C hX hbl hbA hS (i := i) (k := 2) rfl (by omega) hL ha2 dL_law__1235 ?_
  refine lv_aload_n hx hb dL_law__1236 rfl (lv_at hl 0 rfl) ?_
  refine lv_iload hx hb dL_law__1237 (lv_at hl 4 rfl) ?_
  refine lv_iconst (v := 3) hx hb dL_law__1239 rfl ?_
  refine lv_iadd hx hb dL_law__1240 ?_
  refine x_sld C hX hbl hbA hS (i := i) (k := 3) rfl (by omega) hL ha3 dL_law__1241 ?_
  refine lv_aload_n hx hb dL_law__1242 rfl (lv_at hl 3 rfl) ?_
  obtain ⟨⟨r1, h1⟩, eq1, hf⟩ := x_bd hf
  refine x_callL C hR hS rfl (S_L_say hst eq1) lw_L_say tw_1153 (Nat.le_of_ble_eq_true rfl) (Nat.le_of_ble_eq_true rfl) (As := [.ref (oX O), .int a1, .int a2, .int a3, .ref (oX O + 76)]) rfl hl.1 (Nat.le_of_ble_eq_true rfl) dL_law__1243 ⟨by show cells + 5 ≤ room_1.cells; omega, by show slots + 30 ≤ room_1.slots; omega⟩ rfl (fun H locs hR hS => ?_)
  refine lv_istore (lv' := [(5, _), (0, _), (1, _), (2, _), (3, _), (4, _)]) hx hb dL_law__1246 hl (Nat.le_of_ble_eq_true rfl) rfl (fun ls hl => ?_)
  refine lv_aload_n hx hb dL_law__1248 rfl (lv_at hl 3 rfl) ?_
  refine lv_aload_n hx hb dL_law__1249 rfl (lv_at hl 1 rfl) ?_
  refine lv_iload hx hb dL_law__1250 (lv_at hl 5 rfl) ?_
  refine lv_iconst (v := 1) hx hb dL_law__1252 rfl ?_
  refine lv_iadd hx hb dL_law__1253 ?_
  refine x_sld C hX hbl hbA hS (i := i) (k := 1) rfl (by omega) hL ha1 dL_law__1254 ?_
  refine lv_aload_n hx hb dL_law__1255 rfl (lv_at hl 1 rfl) ?_
  refine lv_iload hx hb dL_law__1256 (lv_at hl 5 rfl) ?_
  refine lv_iconst (v := 2) hx hb dL_law__1258 rfl ?_
  refine lv_iadd hx hb dL_law__1259 ?_
  refine x_sld C hX hbl hbA hS (i := i) (k := 2) rfl (by omega) hL ha2 dL_law__1260 ?_
  refine lv_aload_n hx hb dL_law__1261 rfl (lv_at hl 1 rfl) ?_
  refine lv_iload hx hb dL_law__1262 (lv_at hl 5 rfl) ?_
  refine lv_iconst (v := 3) hx hb dL_law__1264 rfl ?_
  refine lv_iadd hx hb dL_law__1265 ?_
  refine x_sld C hX hbl hbA hS (i := i) (k := 3) rfl (by omega) hL ha3 dL_law__1266 ?_
  obtain ⟨q2, eq2, hf⟩ := x_bd hf
  refine x_cVi3 C hR hS (S_X12_say  eq2) (x_k hR 64 rfl) (by decide) rfl mf_X12_say tw_1911 (Nat.le_of_ble_eq_true rfl) (Nat.le_of_ble_eq_true rfl) hl.1 (Nat.le_of_ble_eq_true rfl) dL_law__1267 ⟨by show cells + 5 ≤ room_1.cells; omega, by show slots + 30 ≤ room_1.slots; omega⟩ (fun H locs hR hS => ?_)
  refine lv_istore (lv' := [(6, _), (5, _), (0, _), (1, _), (2, _), (3, _), (4, _)]) hx hb dL_law__1270 hl (Nat.le_of_ble_eq_true rfl) rfl (fun ls hl => ?_)
  refine lv_aload_n hx hb dL_law__1272 rfl (lv_at hl 4 rfl) ?_
  refine x_cVi0 C hR hS (S_X12_thrown  rfl) (x_k hR 64 rfl) (by decide) rfl mf_X12_thrown tw_1533 (Nat.le_of_ble_eq_true rfl) (Nat.le_of_ble_eq_true rfl) hl.1 (Nat.le_of_ble_eq_true rfl) dL_law__1273 ⟨by show cells + 5 ≤ room_1.cells; omega, by show slots + 30 ≤ room_1.slots; omega⟩ (fun H locs hR hS => ?_)
  refine lv_iload hx hb dL_law__1276 (lv_at hl 1 rfl) ?_
  refine lv_icmp_eq (tgt := 1283) hx hb dL_law__1278 rfl (fun hc => ?_) (fun hc => ?_)
  · have hf := x_ip hc hf
    refine lv_iload hx hb dL_law__1283 (lv_at hl 1 rfl) ?_
    refine lv_if_ne (tgt := 1300) hx hb dL_law__1285 rfl (fun hc => ?_) (fun hc => ?_)
    · have hf := x_in hc hf
      refine lv_goto (tgt := 2934) hx hb dL_law__1300 rfl ?_
      cases hf
      exact kx ls _ _ (lv_sub hl [2, 3, 4, 5, 6] rfl) hR hS
    · have hf := x_ip hc hf
      refine lv_aload_n hx hb dL_law__1288 rfl (lv_at hl 5 rfl) ?_
      refine lv_iconst (v := 0) hx hb dL_law__1289 rfl ?_
      obtain ⟨g3, hf⟩ := x_gd hf
      refine x_lald C hR (x_k1 (x_k hR 76 rfl)) (x_k2 (x_k hR 76 rfl) g3) dL_law__1290 ?_
      refine lv_iload hx hb dL_law__1291 (lv_at hl 0 rfl) ?_
      refine lv_i2l hx hb dL_law__1293 rfl ?_
      refine W.lcmp hx hb dL_law__1294 ?_
      refine lv_if_eq (tgt := 1300) hx hb dL_law__1295 rfl (fun hc => ?_) (fun hc => ?_)
      · have hf := x_ip hc hf
        refine lv_goto (tgt := 2934) hx hb dL_law__1300 rfl ?_
        cases hf
        exact kx ls _ _ (lv_sub hl [2, 3, 4, 5, 6] rfl) hR hS
      · have hf := x_in hc hf
        refine lv_iconst (v := 0) hx hb dL_law__1298 rfl ?_
        cases hf
  · have hf := x_in hc hf
    refine lv_iconst (v := 0) hx hb dL_law__1281 rfl ?_
    cases hf
def f_row17 (x : Nat) (h : XH) (a1 : Int32) (a2 : Int32) : Option (XH) := Option.bind (f_L_kind x h a1 a2) (fun q1 => Option.bind (f_X12_kind x q1.2 a1 a2) (fun q2 => if (f_X12_thrown x q2.2) = q1.1 then if q1.1 = 0 then if x_b 0 1 = true then if (lg_cmp (q2.2.2.1 (x + 76) (0 : Int32).toNatClampNeg) q2.1.toInt64) = 0 then some q2.2 else none else none else some q2.2 else none))
set_option maxRecDepth 20000 in
theorem B_row17 {p : Program} {l : Launch} {e : Env} {s : State} {m : MethodId} {args : Array Value} {below : List Frame} {meth : Method} {c : Code} {O : XO} {K : XK} {h h' : XH} {b L i cells slots : Nat} {xs : Nat → Int32} {Q : State → Prop} {a1 : Int32} {a2 : Int32} (C : x_C p s m args meth c O cL_law_ 8 RL (some .boolean)) (hst : l.stackTraces = false) (hX : va_X b L xs s s.heap) (hbl : b < s.heap.size) (hbA : ¬ oA O b) (hL : L ≤ 3072) (hi : i + 6 ≤ L) (ha1 : xs (i + 1) = a1) (ha2 : xs (i + 2) = a2) (hcl : cells + 40 ≤ room_1.cells) (hsl : slots + 900 ≤ room_1.slots) (ls : Array Slot) (H : Heap) (locs : List Loc) (hl : lv_has ls 8 [(0, .ref b), (1, .ref (oX O)), (2, .ref (oX O + 64)), (3, .ref (oX O + 76)), (4, .int (nI i))]) (hR : x_R O K h H) (hS : va_S (oA O) s.heap H locs) (hf : f_row17 (oX O) h a1 a2 = some h') (kx : ∀ (ls : Array Slot) (H : Heap) (locs : List Loc), lv_has ls 8 [(0, .ref b), (1, .ref (oX O)), (2, .ref (oX O + 64)), (3, .ref (oX O + 76)), (4, .int (nI i))] → x_R O K h' H → va_S (oA O) s.heap H locs → W p l e room_1 s m args below meth c H locs (cells + 4) (slots + 24) Q (F0 m 2934 ls [])) : W p l e room_1 s m args below meth c H locs cells slots Q (F0 m 1303 ls []) := by
  have hx := C.1
  have hb := C.2.1
  rw [f_row17] at hf
  refine lv_aload_n hx hb dL_law__1303 rfl (lv_at hl 1 rfl) ?_
  refine lv_aload_n hx hb dL_law__1304 rfl (lv_at hl 0 rfl) ?_
  refine lv_iload hx hb dL_law__1305 (lv_at hl 4 rfl) ?_
  refine lv_iconst (v := 1) hx hb dL_law__1307 rfl ?_
  refine lv_iadd hx hb dL_law__1308 ?_
  refine x_sld C hX hbl hbA hS (i := i) (k := 1) rfl (by omega) hL ha1 dL_law__1309 ?_
  refine lv_aload_n hx hb dL_law__1310 rfl (lv_at hl 0 rfl) ?_
  refine lv_iload hx hb dL_law__1311 (lv_at hl 4 rfl) ?_
  refine lv_iconst (v := 2) hx hb dL_law__1313 rfl ?_
  refine lv_iadd hx hb dL_law__1314 ?_
  refine x_sld C hX hbl hbA hS (i := i) (k := 2) rfl (by omega) hL ha2 dL_law__1315 ?_
  refine lv_aload_n hx hb dL_law__1316 rfl (lv_at hl 3 rfl) ?_
  obtain ⟨⟨r1, h1⟩, eq1, hf⟩ := x_bd hf
  refine x_callL C hR hS rfl (S_L_kind hst eq1) lw_L_kind tw_1196 (Nat.le_of_ble_eq_true rfl) (Nat.le_of_ble_eq_true rfl) (As := [.ref (oX O), .int a1, .int a2, .ref (oX O + 76)]) rfl hl.1 (Nat.le_of_ble_eq_true rfl) dL_law__1317 ⟨by show cells + 4 ≤ room_1.cells; omega, by show slots + 24 ≤ room_1.slots; omega⟩ rfl (fun H locs hR hS => ?_)
  refine lv_istore (lv' := [(5, _), (0, _), (1, _), (2, _), (3, _), (4, _)]) hx hb dL_law__1320 hl (Nat.le_of_ble_eq_true rfl) rfl (fun ls hl => ?_)
  refine lv_aload_n hx hb dL_law__1322 rfl (lv_at hl 3 rfl) ?_
  refine lv_aload_n hx hb dL_law__1323 rfl (lv_at hl 1 rfl) ?_
  refine lv_iload hx hb dL_law__1324 (lv_at hl 5 rfl) ?_
  refine lv_iconst (v := 1) hx hb dL_law__1326 rfl ?_
  refine lv_iadd hx hb dL_law__1327 ?_
  refine x_sld C hX hbl hbA hS (i := i) (k := 1) rfl (by omega) hL ha1 dL_law__1328 ?_
  refine lv_aload_n hx hb dL_law__1329 rfl (lv_at hl 1 rfl) ?_
  refine lv_iload hx hb dL_law__1330 (lv_at hl 5 rfl) ?_
  refine lv_iconst (v := 2) hx hb dL_law__1332 rfl ?_
  refine lv_iadd hx hb dL_law__1333 ?_
  refine x_sld C hX hbl hbA hS (i := i) (k := 2) rfl (by omega) hL ha2 dL_law__1334 ?_
  obtain ⟨q2, eq2, hf⟩ := x_bd hf
  refine x_cVi2 C hR hS (S_X12_kind  eq2) (x_k hR 64 rfl) (by decide) rfl mf_X12_kind tw_1935 (Nat.le_of_ble_eq_true rfl) (Nat.le_of_ble_eq_true rfl) hl.1 (Nat.le_of_ble_eq_true rfl) dL_law__1335 ⟨by show cells + 4 ≤ room_1.cells; omega, by show slots + 24 ≤ room_1.slots; omega⟩ (fun H locs hR hS => ?_)
  refine lv_istore (lv' := [(6, _), (5, _), (0, _), (1, _), (2, _), (3, _), (4, _)]) hx hb dL_law__1338 hl (Nat.le_of_ble_eq_true rfl) rfl (fun ls hl => ?_)
  refine lv_aload_n hx hb dL_law__1340 rfl (lv_at hl 4 rfl) ?_
  refine x_cVi0 C hR hS (S_X12_thrown  rfl) (x_k hR 64 rfl) (by decide) rfl mf_X12_thrown tw_1533 (Nat.le_of_ble_eq_true rfl) (Nat.le_of_ble_eq_true rfl) hl.1 (Nat.le_of_ble_eq_true rfl) dL_law__1341 ⟨by show cells + 4 ≤ room_1.cells; omega, by show slots + 24 ≤ room_1.slots; omega⟩ (fun H locs hR hS => ?_)
  refine lv_iload hx hb dL_law__1344 (lv_at hl 1 rfl) ?_
  refine lv_icmp_eq (tgt := 1351) hx hb dL_law__1346 rfl (fun hc => ?_) (fun hc => ?_)
  · have hf := x_ip hc hf
    refine lv_iload hx hb dL_law__1351 (lv_at hl 1 rfl) ?_
    refine lv_if_ne (tgt := 1368) hx hb dL_law__1353 rfl (fun hc => ?_) (fun hc => ?_)
    · have hf := x_in hc hf
      refine lv_goto (tgt := 2934) hx hb dL_law__1368 rfl ?_
      cases hf
      exact kx ls _ _ (lv_sub hl [2, 3, 4, 5, 6] rfl) hR hS
    · have hf := x_ip hc hf
      refine lv_aload_n hx hb dL_law__1356 rfl (lv_at hl 5 rfl) ?_
      refine lv_iconst (v := 0) hx hb dL_law__1357 rfl ?_
      obtain ⟨g3, hf⟩ := x_gd hf
      refine x_lald C hR (x_k1 (x_k hR 76 rfl)) (x_k2 (x_k hR 76 rfl) g3) dL_law__1358 ?_
      refine lv_iload hx hb dL_law__1359 (lv_at hl 0 rfl) ?_
      refine lv_i2l hx hb dL_law__1361 rfl ?_
      refine W.lcmp hx hb dL_law__1362 ?_
      refine lv_if_eq (tgt := 1368) hx hb dL_law__1363 rfl (fun hc => ?_) (fun hc => ?_)
      · have hf := x_ip hc hf
        refine lv_goto (tgt := 2934) hx hb dL_law__1368 rfl ?_
        cases hf
        exact kx ls _ _ (lv_sub hl [2, 3, 4, 5, 6] rfl) hR hS
      · have hf := x_in hc hf
        refine lv_iconst (v := 0) hx hb dL_law__1366 rfl ?_
        cases hf
  · have hf := x_in hc hf
    refine lv_iconst (v := 0) hx hb dL_law__1349 rfl ?_
    cases hf
def f_row18 (K : XK) (x : Nat) (h : XH) (a1 : Int32) (a2 : Int32) (a3 : Int32) : Option (XH) := Option.bind (f_L_run K x h a1 a2 a3) (fun q1 => Option.bind (f_X12_run x q1.2 a1 a2 a3) (fun q2 => if (f_X12_thrown x q2.2) = q1.1 then if q1.1 = 0 then if x_b 0 1 = true then if (lg_cmp (q2.2.2.1 (x + 76) (0 : Int32).toNatClampNeg) q2.1.toInt64) = 0 then some q2.2 else none else none else some q2.2 else none))
set_option maxRecDepth 20000 in
theorem B_row18 {p : Program} {l : Launch} {e : Env} {s : State} {m : MethodId} {args : Array Value} {below : List Frame} {meth : Method} {c : Code} {O : XO} {K : XK} {h h' : XH} {b L i cells slots : Nat} {xs : Nat → Int32} {Q : State → Prop} {a1 : Int32} {a2 : Int32} {a3 : Int32} (C : x_C p s m args meth c O cL_law_ 8 RL (some .boolean)) (hst : l.stackTraces = false) (hX : va_X b L xs s s.heap) (hbl : b < s.heap.size) (hbA : ¬ oA O b) (hL : L ≤ 3072) (hi : i + 6 ≤ L) (ha1 : xs (i + 1) = a1) (ha2 : xs (i + 2) = a2) (ha3 : xs (i + 3) = a3) (hcl : cells + 40 ≤ room_1.cells) (hsl : slots + 900 ≤ room_1.slots) (ls : Array Slot) (H : Heap) (locs : List Loc) (hl : lv_has ls 8 [(0, .ref b), (1, .ref (oX O)), (2, .ref (oX O + 64)), (3, .ref (oX O + 76)), (4, .int (nI i))]) (hR : x_R O K h H) (hS : va_S (oA O) s.heap H locs) (hf : f_row18 K (oX O) h a1 a2 a3 = some h') (kx : ∀ (ls : Array Slot) (H : Heap) (locs : List Loc), lv_has ls 8 [(0, .ref b), (1, .ref (oX O)), (2, .ref (oX O + 64)), (3, .ref (oX O + 76)), (4, .int (nI i))] → x_R O K h' H → va_S (oA O) s.heap H locs → W p l e room_1 s m args below meth c H locs (cells + 3) (slots + 18) Q (F0 m 2934 ls [])) : W p l e room_1 s m args below meth c H locs cells slots Q (F0 m 1371 ls []) := by
  have hx := C.1
  have hb := C.2.1
  rw [f_row18] at hf
  refine lv_aload_n hx hb dL_law__1371 rfl (lv_at hl 1 rfl) ?_
  refine lv_aload_n hx hb dL_law__1372 rfl (lv_at hl 0 rfl) ?_
  refine lv_iload hx hb dL_law__1373 (lv_at hl 4 rfl) ?_
  refine lv_iconst (v := 1) hx hb dL_law__1375 rfl ?_
  refine lv_iadd hx hb dL_law__1376 ?_
  refine x_sld C hX hbl hbA hS (i := i) (k := 1) rfl (by omega) hL ha1 dL_law__1377 ?_
  refine lv_aload_n hx hb dL_law__1378 rfl (lv_at hl 0 rfl) ?_
  refine lv_iload hx hb dL_law__1379 (lv_at hl 4 rfl) ?_
  refine lv_iconst (v := 2) hx hb dL_law__1381 rfl ?_
  refine lv_iadd hx hb dL_law__1382 ?_
  refine x_sld C hX hbl hbA hS (i := i) (k := 2) rfl (by omega) hL ha2 dL_law__1383 ?_
  refine lv_aload_n hx hb dL_law__1384 rfl (lv_at hl 0 rfl) ?_
  refine lv_iload hx hb dL_law__1385 (lv_at hl 4 rfl) ?_
  refine lv_iconst (v := 3) hx hb dL_law__1387 rfl ?_
  refine lv_iadd hx hb dL_law__1388 ?_
  refine x_sld C hX hbl hbA hS (i := i) (k := 3) rfl (by omega) hL ha3 dL_law__1389 ?_
  refine lv_aload_n hx hb dL_law__1390 rfl (lv_at hl 3 rfl) ?_
  obtain ⟨⟨r1, h1⟩, eq1, hf⟩ := x_bd hf
  refine x_callL C hR hS rfl (S_L_run hst eq1) lw_L_run tw_1203 (Nat.le_of_ble_eq_true rfl) (Nat.le_of_ble_eq_true rfl) (As := [.ref (oX O), .int a1, .int a2, .int a3, .ref (oX O + 76)]) rfl hl.1 (Nat.le_of_ble_eq_true rfl) dL_law__1391 ⟨by show cells + 3 ≤ room_1.cells; omega, by show slots + 18 ≤ room_1.slots; omega⟩ rfl (fun H locs hR hS => ?_)
  refine lv_istore (lv' := [(5, _), (0, _), (1, _), (2, _), (3, _), (4, _)]) hx hb dL_law__1394 hl (Nat.le_of_ble_eq_true rfl) rfl (fun ls hl => ?_)
  refine lv_aload_n hx hb dL_law__1396 rfl (lv_at hl 3 rfl) ?_
  refine lv_aload_n hx hb dL_law__1397 rfl (lv_at hl 1 rfl) ?_
  refine lv_iload hx hb dL_law__1398 (lv_at hl 5 rfl) ?_
  refine lv_iconst (v := 1) hx hb dL_law__1400 rfl ?_
  refine lv_iadd hx hb dL_law__1401 ?_
  refine x_sld C hX hbl hbA hS (i := i) (k := 1) rfl (by omega) hL ha1 dL_law__1402 ?_
  refine lv_aload_n hx hb dL_law__1403 rfl (lv_at hl 1 rfl) ?_
  refine lv_iload hx hb dL_law__1404 (lv_at hl 5 rfl) ?_
  refine lv_iconst (v := 2) hx hb dL_law__1406 rfl ?_
  refine lv_iadd hx hb dL_law__1407 ?_
  refine x_sld C hX hbl hbA hS (i := i) (k := 2) rfl (by omega) hL ha2 dL_law__1408 ?_
  refine lv_aload_n hx hb dL_law__1409 rfl (lv_at hl 1 rfl) ?_
  refine lv_iload hx hb dL_law__1410 (lv_at hl 5 rfl) ?_
  refine lv_iconst (v := 3) hx hb dL_law__1412 rfl ?_
  refine lv_iadd hx hb dL_law__1413 ?_
  refine x_sld C hX hbl hbA hS (i := i) (k := 3) rfl (by omega) hL ha3 dL_law__1414 ?_
  obtain ⟨q2, eq2, hf⟩ := x_bd hf
  refine x_cVi3 C hR hS (S_X12_run  eq2) (x_k hR 64 rfl) (by decide) rfl mf_X12_run tw_1939 (Nat.le_of_ble_eq_true rfl) (Nat.le_of_ble_eq_true rfl) hl.1 (Nat.le_of_ble_eq_true rfl) dL_law__1415 ⟨by show cells + 3 ≤ room_1.cells; omega, by show slots + 18 ≤ room_1.slots; omega⟩ (fun H locs hR hS => ?_)
  refine lv_istore (lv' := [(6, _), (5, _), (0, _), (1, _), (2, _), (3, _), (4, _)]) hx hb dL_law__1418 hl (Nat.le_of_ble_eq_true rfl) rfl (fun ls hl => ?_)
  refine lv_aload_n hx hb dL_law__1420 rfl (lv_at hl 4 rfl) ?_
  refine x_cVi0 C hR hS (S_X12_thrown  rfl) (x_k hR 64 rfl) (by decide) rfl mf_X12_thrown tw_1533 (Nat.le_of_ble_eq_true rfl) (Nat.le_of_ble_eq_true rfl) hl.1 (Nat.le_of_ble_eq_true rfl) dL_law__1421 ⟨by show cells + 3 ≤ room_1.cells; omega, by show slots + 18 ≤ room_1.slots; omega⟩ (fun H locs hR hS => ?_)
  refine lv_iload hx hb dL_law__1424 (lv_at hl 1 rfl) ?_
  refine lv_icmp_eq (tgt := 1431) hx hb dL_law__1426 rfl (fun hc => ?_) (fun hc => ?_)
  · have hf := x_ip hc hf
    refine lv_iload hx hb dL_law__1431 (lv_at hl 1 rfl) ?_
    refine lv_if_ne (tgt := 1448) hx hb dL_law__1433 rfl (fun hc => ?_) (fun hc => ?_)
    · have hf := x_in hc hf
      refine lv_goto (tgt := 2934) hx hb dL_law__1448 rfl ?_
      cases hf
      exact kx ls _ _ (lv_sub hl [2, 3, 4, 5, 6] rfl) hR hS
    · have hf := x_ip hc hf
      refine lv_aload_n hx hb dL_law__1436 rfl (lv_at hl 5 rfl) ?_
      refine lv_iconst (v := 0) hx hb dL_law__1437 rfl ?_
      obtain ⟨g3, hf⟩ := x_gd hf
      refine x_lald C hR (x_k1 (x_k hR 76 rfl)) (x_k2 (x_k hR 76 rfl) g3) dL_law__1438 ?_
      refine lv_iload hx hb dL_law__1439 (lv_at hl 0 rfl) ?_
      refine lv_i2l hx hb dL_law__1441 rfl ?_
      refine W.lcmp hx hb dL_law__1442 ?_
      refine lv_if_eq (tgt := 1448) hx hb dL_law__1443 rfl (fun hc => ?_) (fun hc => ?_)
      · have hf := x_ip hc hf
        refine lv_goto (tgt := 2934) hx hb dL_law__1448 rfl ?_
        cases hf
        exact kx ls _ _ (lv_sub hl [2, 3, 4, 5, 6] rfl) hR hS
      · have hf := x_in hc hf
        refine lv_iconst (v := 0) hx hb dL_law__1446 rfl ?_
        cases hf
  · have hf := x_in hc hf
    refine lv_iconst (v := 0) hx hb dL_law__1429 rfl ?_
    cases hf
def f_row19 (K : XK) (x : Nat) (h : XH) (a1 : Int32) (a2 : Int32) (a3 : Int32) (a4 : Int32) (a5 : Int32) : Option (XH) := Option.bind (f_L_odds K x h a1 a2 a3 a4 (if a5 = 0 then 0 else 1)) (fun q2 => Option.bind (f_X12_odds x q2.2 a1 a2 a3 a4 (if a5 = 0 then 0 else 1)) (fun q4 => if (f_X12_thrown x q4.2) = q2.1 then if q2.1 = 0 then if x_b 0 1 = true then if (lg_cmp (q4.2.2.1 (x + 76) (0 : Int32).toNatClampNeg) q4.1.toInt64) = 0 then some q4.2 else none else none else some q4.2 else none))
set_option maxRecDepth 20000 in
theorem B_row19 {p : Program} {l : Launch} {e : Env} {s : State} {m : MethodId} {args : Array Value} {below : List Frame} {meth : Method} {c : Code} {O : XO} {K : XK} {h h' : XH} {b L i cells slots : Nat} {xs : Nat → Int32} {Q : State → Prop} {a1 : Int32} {a2 : Int32} {a3 : Int32} {a4 : Int32} {a5 : Int32} (C : x_C p s m args meth c O cL_law_ 8 RL (some .boolean)) (hst : l.stackTraces = false) (hX : va_X b L xs s s.heap) (hbl : b < s.heap.size) (hbA : ¬ oA O b) (hL : L ≤ 3072) (hi : i + 6 ≤ L) (ha1 : xs (i + 1) = a1) (ha2 : xs (i + 2) = a2) (ha3 : xs (i + 3) = a3) (ha4 : xs (i + 4) = a4) (ha5 : xs (i + 5) = a5) (hcl : cells + 40 ≤ room_1.cells) (hsl : slots + 900 ≤ room_1.slots) (ls : Array Slot) (H : Heap) (locs : List Loc) (hl : lv_has ls 8 [(0, .ref b), (1, .ref (oX O)), (2, .ref (oX O + 64)), (3, .ref (oX O + 76)), (4, .int (nI i))]) (hR : x_R O K h H) (hS : va_S (oA O) s.heap H locs) (hf : f_row19 K (oX O) h a1 a2 a3 a4 a5 = some h') (kx : ∀ (ls : Array Slot) (H : Heap) (locs : List Loc), lv_has ls 8 [(0, .ref b), (1, .ref (oX O)), (2, .ref (oX O + 64)), (3, .ref (oX O + 76)), (4, .int (nI i))] → x_R O K h' H → va_S (oA O) s.heap H locs → W p l e room_1 s m args below meth c H locs (cells + 6) (slots + 36) Q (F0 m 2934 ls [])) : W p l e room_1 s m args below meth c H locs cells slots Q (F0 m 1451 ls []) := by
  have hx := C.1
  have hb := C.2.1
  rw [f_row19] at hf
  refine lv_aload_n hx hb dL_law__1451 rfl (lv_at hl 1 rfl) ?_
  refine lv_aload_n hx hb dL_law__1452 rfl (lv_at hl 0 rfl) ?_
  refine lv_iload hx hb dL_law__1453 (lv_at hl 4 rfl) ?_
  refine lv_iconst (v := 1) hx hb dL_law__1455 rfl ?_
  refine lv_iadd hx hb dL_law__1456 ?_
  refine x_sld C hX hbl hbA hS (i := i) (k := 1) rfl (by omega) hL ha1 dL_law__1457 ?_
  refine lv_aload_n hx hb dL_law__1458 rfl (lv_at hl 0 rfl) ?_
  refine lv_iload hx hb dL_law__1459 (lv_at hl 4 rfl) ?_
  refine lv_iconst (v := 2) hx hb dL_law__1461 rfl ?_
  refine lv_iadd hx hb dL_law__1462 ?_
  refine x_sld C hX hbl hbA hS (i := i) (k := 2) rfl (by omega) hL ha2 dL_law__1463 ?_
  refine lv_aload_n hx hb dL_law__1464 rfl (lv_at hl 0 rfl) ?_
  refine lv_iload hx hb dL_law__1465 (lv_at hl 4 rfl) ?_
  refine lv_iconst (v := 3) hx hb dL_law__1467 rfl ?_
  refine lv_iadd hx hb dL_law__1468 ?_
  refine x_sld C hX hbl hbA hS (i := i) (k := 3) rfl (by omega) hL ha3 dL_law__1469 ?_
  refine lv_aload_n hx hb dL_law__1470 rfl (lv_at hl 0 rfl) ?_
  refine lv_iload hx hb dL_law__1471 (lv_at hl 4 rfl) ?_
  refine lv_iconst (v := 4) hx hb dL_law__1473 rfl ?_
  refine lv_iadd hx hb dL_law__1474 ?_
  refine x_sld C hX hbl hbA hS (i := i) (k := 4) rfl (by omega) hL ha4 dL_law__1475 ?_
  refine lv_aload_n hx hb dL_law__1476 rfl (lv_at hl 0 rfl) ?_
  refine lv_iload hx hb dL_law__1477 (lv_at hl 4 rfl) ?_
  refine lv_iconst (v := 5) hx hb dL_law__1479 rfl ?_
  refine lv_iadd hx hb dL_law__1480 ?_
  refine x_sld C hX hbl hbA hS (i := i) (k := 5) rfl (by omega) hL ha5 dL_law__1481 ?_
  have kM1 : ∀ (ls : Array Slot) (H : Heap) (locs : List Loc), lv_has ls 8 [(0, .ref b), (1, .ref (oX O)), (2, .ref (oX O + 64)), (3, .ref (oX O + 76)), (4, .int (nI i))] → x_R O K h H → va_S (oA O) s.heap H locs → W p l e room_1 s m args below meth c H locs (cells) (slots) Q (F0 m 1490 ls [.int (if a5 = 0 then 0 else 1), .int a4, .int a3, .int a2, .int a1, .ref (oX O)]) := by
    intro ls H locs hl hR hS
    refine lv_aload_n hx hb dL_law__1490 rfl (lv_at hl 3 rfl) ?_
    obtain ⟨⟨r2, h2⟩, eq2, hf⟩ := x_bd hf
    refine x_callL C hR hS rfl (S_L_odds hst eq2) lw_L_odds tw_1235 (Nat.le_of_ble_eq_true rfl) (Nat.le_of_ble_eq_true rfl) (As := [.ref (oX O), .int a1, .int a2, .int a3, .int a4, .int (if a5 = 0 then 0 else 1), .ref (oX O + 76)]) rfl hl.1 (Nat.le_of_ble_eq_true rfl) dL_law__1491 ⟨by show cells + 6 ≤ room_1.cells; omega, by show slots + 36 ≤ room_1.slots; omega⟩ rfl (fun H locs hR hS => ?_)
    refine lv_istore (lv' := [(5, _), (0, _), (1, _), (2, _), (3, _), (4, _)]) hx hb dL_law__1494 hl (Nat.le_of_ble_eq_true rfl) rfl (fun ls hl => ?_)
    refine lv_aload_n hx hb dL_law__1496 rfl (lv_at hl 3 rfl) ?_
    refine lv_aload_n hx hb dL_law__1497 rfl (lv_at hl 1 rfl) ?_
    refine lv_iload hx hb dL_law__1498 (lv_at hl 5 rfl) ?_
    refine lv_iconst (v := 1) hx hb dL_law__1500 rfl ?_
    refine lv_iadd hx hb dL_law__1501 ?_
    refine x_sld C hX hbl hbA hS (i := i) (k := 1) rfl (by omega) hL ha1 dL_law__1502 ?_
    refine lv_aload_n hx hb dL_law__1503 rfl (lv_at hl 1 rfl) ?_
    refine lv_iload hx hb dL_law__1504 (lv_at hl 5 rfl) ?_
    refine lv_iconst (v := 2) hx hb dL_law__1506 rfl ?_
    refine lv_iadd hx hb dL_law__1507 ?_
    refine x_sld C hX hbl hbA hS (i := i) (k := 2) rfl (by omega) hL ha2 dL_law__1508 ?_
    refine lv_aload_n hx hb dL_law__1509 rfl (lv_at hl 1 rfl) ?_
    refine lv_iload hx hb dL_law__1510 (lv_at hl 5 rfl) ?_
    refine lv_iconst (v := 3) hx hb dL_law__1512 rfl ?_
    refine lv_iadd hx hb dL_law__1513 ?_
    refine x_sld C hX hbl hbA hS (i := i) (k := 3) rfl (by omega) hL ha3 dL_law__1514 ?_
    refine lv_aload_n hx hb dL_law__1515 rfl (lv_at hl 1 rfl) ?_
    refine lv_iload hx hb dL_law__1516 (lv_at hl 5 rfl) ?_
    refine lv_iconst (v := 4) hx hb dL_law__1518 rfl ?_
    refine lv_iadd hx hb dL_law__1519 ?_
    refine x_sld C hX hbl hbA hS (i := i) (k := 4) rfl (by omega) hL ha4 dL_law__1520 ?_
    refine lv_aload_n hx hb dL_law__1521 rfl (lv_at hl 1 rfl) ?_
    refine lv_iload hx hb dL_law__1522 (lv_at hl 5 rfl) ?_
    refine lv_iconst (v := 5) hx hb dL_law__1524 rfl ?_
    refine lv_iadd hx hb dL_law__1525 ?_
    refine x_sld C hX hbl hbA hS (i := i) (k := 5) rfl (by omega) hL ha5 dL_law__1526 ?_
    have kM3 : ∀ (ls : Array Slot) (H : Heap) (locs : List Loc), lv_has ls 8 [(0, .ref b), (1, .ref (oX O)), (2, .ref (oX O + 64)), (3, .ref (oX O + 76)), (4, .int (nI i)), (5, .int r2)] → x_R O K h2 H → va_S (oA O) s.heap H locs → W p l e room_1 s m args below meth c H locs (cells + 6) (slots + 36) Q (F0 m 1535 ls [.int (if a5 = 0 then 0 else 1), .int a4, .int a3, .int a2, .int a1, .ref (oX O + 64)]) := by
      intro ls H locs hl hR hS
      obtain ⟨q4, eq4, hf⟩ := x_bd hf
      refine x_cVi5 C hR hS (S_X12_odds  eq4) (x_k hR 64 rfl) (by decide) rfl mf_X12_odds tw_1963 (Nat.le_of_ble_eq_true rfl) (Nat.le_of_ble_eq_true rfl) hl.1 (Nat.le_of_ble_eq_true rfl) dL_law__1535 ⟨by show cells + 6 ≤ room_1.cells; omega, by show slots + 36 ≤ room_1.slots; omega⟩ (fun H locs hR hS => ?_)
      refine lv_istore (lv' := [(6, _), (0, _), (1, _), (2, _), (3, _), (4, _), (5, _)]) hx hb dL_law__1538 hl (Nat.le_of_ble_eq_true rfl) rfl (fun ls hl => ?_)
      refine lv_aload_n hx hb dL_law__1540 rfl (lv_at hl 3 rfl) ?_
      refine x_cVi0 C hR hS (S_X12_thrown  rfl) (x_k hR 64 rfl) (by decide) rfl mf_X12_thrown tw_1533 (Nat.le_of_ble_eq_true rfl) (Nat.le_of_ble_eq_true rfl) hl.1 (Nat.le_of_ble_eq_true rfl) dL_law__1541 ⟨by show cells + 6 ≤ room_1.cells; omega, by show slots + 36 ≤ room_1.slots; omega⟩ (fun H locs hR hS => ?_)
      refine lv_iload hx hb dL_law__1544 (lv_at hl 6 rfl) ?_
      refine lv_icmp_eq (tgt := 1551) hx hb dL_law__1546 rfl (fun hc => ?_) (fun hc => ?_)
      · have hf := x_ip hc hf
        refine lv_iload hx hb dL_law__1551 (lv_at hl 6 rfl) ?_
        refine lv_if_ne (tgt := 1568) hx hb dL_law__1553 rfl (fun hc => ?_) (fun hc => ?_)
        · have hf := x_in hc hf
          refine lv_goto (tgt := 2934) hx hb dL_law__1568 rfl ?_
          cases hf
          exact kx ls _ _ (lv_sub hl [1, 2, 3, 4, 5] rfl) hR hS
        · have hf := x_ip hc hf
          refine lv_aload_n hx hb dL_law__1556 rfl (lv_at hl 4 rfl) ?_
          refine lv_iconst (v := 0) hx hb dL_law__1557 rfl ?_
          obtain ⟨g5, hf⟩ := x_gd hf
          refine x_lald C hR (x_k1 (x_k hR 76 rfl)) (x_k2 (x_k hR 76 rfl) g5) dL_law__1558 ?_
          refine lv_iload hx hb dL_law__1559 (lv_at hl 0 rfl) ?_
          refine lv_i2l hx hb dL_law__1561 rfl ?_
          refine W.lcmp hx hb dL_law__1562 ?_
          refine lv_if_eq (tgt := 1568) hx hb dL_law__1563 rfl (fun hc => ?_) (fun hc => ?_)
          · have hf := x_ip hc hf
            refine lv_goto (tgt := 2934) hx hb dL_law__1568 rfl ?_
            cases hf
            exact kx ls _ _ (lv_sub hl [1, 2, 3, 4, 5] rfl) hR hS
          · have hf := x_in hc hf
            refine lv_iconst (v := 0) hx hb dL_law__1566 rfl ?_
            cases hf
      · have hf := x_in hc hf
        refine lv_iconst (v := 0) hx hb dL_law__1549 rfl ?_
        cases hf
    refine lv_if_eq (tgt := 1534) hx hb dL_law__1527 rfl (fun hc => ?_) (fun hc => ?_)
    · try simp only [if_pos hc] at kM3
      refine lv_iconst (v := 0) hx hb dL_law__1534 rfl ?_
      exact kM3 ls _ _ (lv_sub hl [1, 2, 3, 4, 5, 0] rfl) hR hS
    · try simp only [if_neg hc] at kM3
      refine lv_iconst (v := 1) hx hb dL_law__1530 rfl ?_
      refine lv_goto (tgt := 1535) hx hb dL_law__1531 rfl ?_
      exact kM3 ls _ _ (lv_sub hl [1, 2, 3, 4, 5, 0] rfl) hR hS
  refine lv_if_eq (tgt := 1489) hx hb dL_law__1482 rfl (fun hc => ?_) (fun hc => ?_)
  · try simp only [if_pos hc] at kM1
    refine lv_iconst (v := 0) hx hb dL_law__1489 rfl ?_
    exact kM1 ls _ _ (lv_sub hl [0, 1, 2, 3, 4] rfl) hR hS
  · try simp only [if_neg hc] at kM1
    refine lv_iconst (v := 1) hx hb dL_law__1485 rfl ?_
    refine lv_goto (tgt := 1490) hx hb dL_law__1486 rfl ?_
    exact kM1 ls _ _ (lv_sub hl [0, 1, 2, 3, 4] rfl) hR hS
def f_row20 (x : Nat) (h : XH) (a1 : Int32) (a2 : Int32) : Option (XH) := Option.bind (f_L_kinds x h a1 a2) (fun q1 => Option.bind (f_X12_kinds x q1.2 a1 a2) (fun q2 => if (f_X12_thrown x q2.2) = q1.1 then if q1.1 = 0 then if x_b 0 1 = true then if (lg_cmp (q2.2.2.1 (x + 76) (0 : Int32).toNatClampNeg) q2.1.toInt64) = 0 then some q2.2 else none else none else some q2.2 else none))
set_option maxRecDepth 20000 in
theorem B_row20 {p : Program} {l : Launch} {e : Env} {s : State} {m : MethodId} {args : Array Value} {below : List Frame} {meth : Method} {c : Code} {O : XO} {K : XK} {h h' : XH} {b L i cells slots : Nat} {xs : Nat → Int32} {Q : State → Prop} {a1 : Int32} {a2 : Int32} (C : x_C p s m args meth c O cL_law_ 8 RL (some .boolean)) (hst : l.stackTraces = false) (hX : va_X b L xs s s.heap) (hbl : b < s.heap.size) (hbA : ¬ oA O b) (hL : L ≤ 3072) (hi : i + 6 ≤ L) (ha1 : xs (i + 1) = a1) (ha2 : xs (i + 2) = a2) (hcl : cells + 40 ≤ room_1.cells) (hsl : slots + 900 ≤ room_1.slots) (ls : Array Slot) (H : Heap) (locs : List Loc) (hl : lv_has ls 8 [(0, .ref b), (1, .ref (oX O)), (2, .ref (oX O + 64)), (3, .ref (oX O + 76)), (4, .int (nI i))]) (hR : x_R O K h H) (hS : va_S (oA O) s.heap H locs) (hf : f_row20 (oX O) h a1 a2 = some h') (kx : ∀ (ls : Array Slot) (H : Heap) (locs : List Loc), lv_has ls 8 [(0, .ref b), (1, .ref (oX O)), (2, .ref (oX O + 64)), (3, .ref (oX O + 76)), (4, .int (nI i))] → x_R O K h' H → va_S (oA O) s.heap H locs → W p l e room_1 s m args below meth c H locs (cells + 3) (slots + 18) Q (F0 m 2934 ls [])) : W p l e room_1 s m args below meth c H locs cells slots Q (F0 m 1571 ls []) := by
  have hx := C.1
  have hb := C.2.1
  rw [f_row20] at hf
  refine lv_aload_n hx hb dL_law__1571 rfl (lv_at hl 1 rfl) ?_
  refine lv_aload_n hx hb dL_law__1572 rfl (lv_at hl 0 rfl) ?_
  refine lv_iload hx hb dL_law__1573 (lv_at hl 4 rfl) ?_
  refine lv_iconst (v := 1) hx hb dL_law__1575 rfl ?_
  refine lv_iadd hx hb dL_law__1576 ?_
  refine x_sld C hX hbl hbA hS (i := i) (k := 1) rfl (by omega) hL ha1 dL_law__1577 ?_
  refine lv_aload_n hx hb dL_law__1578 rfl (lv_at hl 0 rfl) ?_
  refine lv_iload hx hb dL_law__1579 (lv_at hl 4 rfl) ?_
  refine lv_iconst (v := 2) hx hb dL_law__1581 rfl ?_
  refine lv_iadd hx hb dL_law__1582 ?_
  refine x_sld C hX hbl hbA hS (i := i) (k := 2) rfl (by omega) hL ha2 dL_law__1583 ?_
  refine lv_aload_n hx hb dL_law__1584 rfl (lv_at hl 3 rfl) ?_
  obtain ⟨⟨r1, h1⟩, eq1, hf⟩ := x_bd hf
  refine x_callL C hR hS rfl (S_L_kinds hst eq1) lw_L_kinds tw_1250 (Nat.le_of_ble_eq_true rfl) (Nat.le_of_ble_eq_true rfl) (As := [.ref (oX O), .int a1, .int a2, .ref (oX O + 76)]) rfl hl.1 (Nat.le_of_ble_eq_true rfl) dL_law__1585 ⟨by show cells + 3 ≤ room_1.cells; omega, by show slots + 18 ≤ room_1.slots; omega⟩ rfl (fun H locs hR hS => ?_)
  refine lv_istore (lv' := [(5, _), (0, _), (1, _), (2, _), (3, _), (4, _)]) hx hb dL_law__1588 hl (Nat.le_of_ble_eq_true rfl) rfl (fun ls hl => ?_)
  refine lv_aload_n hx hb dL_law__1590 rfl (lv_at hl 3 rfl) ?_
  refine lv_aload_n hx hb dL_law__1591 rfl (lv_at hl 1 rfl) ?_
  refine lv_iload hx hb dL_law__1592 (lv_at hl 5 rfl) ?_
  refine lv_iconst (v := 1) hx hb dL_law__1594 rfl ?_
  refine lv_iadd hx hb dL_law__1595 ?_
  refine x_sld C hX hbl hbA hS (i := i) (k := 1) rfl (by omega) hL ha1 dL_law__1596 ?_
  refine lv_aload_n hx hb dL_law__1597 rfl (lv_at hl 1 rfl) ?_
  refine lv_iload hx hb dL_law__1598 (lv_at hl 5 rfl) ?_
  refine lv_iconst (v := 2) hx hb dL_law__1600 rfl ?_
  refine lv_iadd hx hb dL_law__1601 ?_
  refine x_sld C hX hbl hbA hS (i := i) (k := 2) rfl (by omega) hL ha2 dL_law__1602 ?_
  obtain ⟨q2, eq2, hf⟩ := x_bd hf
  refine x_cVi2 C hR hS (S_X12_kinds  eq2) (x_k hR 64 rfl) (by decide) rfl mf_X12_kinds tw_1971 (Nat.le_of_ble_eq_true rfl) (Nat.le_of_ble_eq_true rfl) hl.1 (Nat.le_of_ble_eq_true rfl) dL_law__1603 ⟨by show cells + 3 ≤ room_1.cells; omega, by show slots + 18 ≤ room_1.slots; omega⟩ (fun H locs hR hS => ?_)
  refine lv_istore (lv' := [(6, _), (5, _), (0, _), (1, _), (2, _), (3, _), (4, _)]) hx hb dL_law__1606 hl (Nat.le_of_ble_eq_true rfl) rfl (fun ls hl => ?_)
  refine lv_aload_n hx hb dL_law__1608 rfl (lv_at hl 4 rfl) ?_
  refine x_cVi0 C hR hS (S_X12_thrown  rfl) (x_k hR 64 rfl) (by decide) rfl mf_X12_thrown tw_1533 (Nat.le_of_ble_eq_true rfl) (Nat.le_of_ble_eq_true rfl) hl.1 (Nat.le_of_ble_eq_true rfl) dL_law__1609 ⟨by show cells + 3 ≤ room_1.cells; omega, by show slots + 18 ≤ room_1.slots; omega⟩ (fun H locs hR hS => ?_)
  refine lv_iload hx hb dL_law__1612 (lv_at hl 1 rfl) ?_
  refine lv_icmp_eq (tgt := 1619) hx hb dL_law__1614 rfl (fun hc => ?_) (fun hc => ?_)
  · have hf := x_ip hc hf
    refine lv_iload hx hb dL_law__1619 (lv_at hl 1 rfl) ?_
    refine lv_if_ne (tgt := 1636) hx hb dL_law__1621 rfl (fun hc => ?_) (fun hc => ?_)
    · have hf := x_in hc hf
      refine lv_goto (tgt := 2934) hx hb dL_law__1636 rfl ?_
      cases hf
      exact kx ls _ _ (lv_sub hl [2, 3, 4, 5, 6] rfl) hR hS
    · have hf := x_ip hc hf
      refine lv_aload_n hx hb dL_law__1624 rfl (lv_at hl 5 rfl) ?_
      refine lv_iconst (v := 0) hx hb dL_law__1625 rfl ?_
      obtain ⟨g3, hf⟩ := x_gd hf
      refine x_lald C hR (x_k1 (x_k hR 76 rfl)) (x_k2 (x_k hR 76 rfl) g3) dL_law__1626 ?_
      refine lv_iload hx hb dL_law__1627 (lv_at hl 0 rfl) ?_
      refine lv_i2l hx hb dL_law__1629 rfl ?_
      refine W.lcmp hx hb dL_law__1630 ?_
      refine lv_if_eq (tgt := 1636) hx hb dL_law__1631 rfl (fun hc => ?_) (fun hc => ?_)
      · have hf := x_ip hc hf
        refine lv_goto (tgt := 2934) hx hb dL_law__1636 rfl ?_
        cases hf
        exact kx ls _ _ (lv_sub hl [2, 3, 4, 5, 6] rfl) hR hS
      · have hf := x_in hc hf
        refine lv_iconst (v := 0) hx hb dL_law__1634 rfl ?_
        cases hf
  · have hf := x_in hc hf
    refine lv_iconst (v := 0) hx hb dL_law__1617 rfl ?_
    cases hf
def f_row21 (K : XK) (x : Nat) (h : XH) (a1 : Int32) (a2 : Int32) : Option (XH) := Option.bind (f_L_score K x h a1 a2) (fun q1 => Option.bind (f_X12_score x q1.2 a1 a2) (fun q2 => if (f_X12_thrown x q2.2) = q1.1 then if q1.1 = 0 then if x_b 0 1 = true then if (lg_cmp (q2.2.2.1 (x + 76) (0 : Int32).toNatClampNeg) q2.1.toInt64) = 0 then some q2.2 else none else none else some q2.2 else none))
set_option maxRecDepth 20000 in
theorem B_row21 {p : Program} {l : Launch} {e : Env} {s : State} {m : MethodId} {args : Array Value} {below : List Frame} {meth : Method} {c : Code} {O : XO} {K : XK} {h h' : XH} {b L i cells slots : Nat} {xs : Nat → Int32} {Q : State → Prop} {a1 : Int32} {a2 : Int32} (C : x_C p s m args meth c O cL_law_ 8 RL (some .boolean)) (hst : l.stackTraces = false) (hX : va_X b L xs s s.heap) (hbl : b < s.heap.size) (hbA : ¬ oA O b) (hL : L ≤ 3072) (hi : i + 6 ≤ L) (ha1 : xs (i + 1) = a1) (ha2 : xs (i + 2) = a2) (hcl : cells + 40 ≤ room_1.cells) (hsl : slots + 900 ≤ room_1.slots) (ls : Array Slot) (H : Heap) (locs : List Loc) (hl : lv_has ls 8 [(0, .ref b), (1, .ref (oX O)), (2, .ref (oX O + 64)), (3, .ref (oX O + 76)), (4, .int (nI i))]) (hR : x_R O K h H) (hS : va_S (oA O) s.heap H locs) (hf : f_row21 K (oX O) h a1 a2 = some h') (kx : ∀ (ls : Array Slot) (H : Heap) (locs : List Loc), lv_has ls 8 [(0, .ref b), (1, .ref (oX O)), (2, .ref (oX O + 64)), (3, .ref (oX O + 76)), (4, .int (nI i))] → x_R O K h' H → va_S (oA O) s.heap H locs → W p l e room_1 s m args below meth c H locs (cells + 3) (slots + 18) Q (F0 m 2934 ls [])) : W p l e room_1 s m args below meth c H locs cells slots Q (F0 m 1639 ls []) := by
  have hx := C.1
  have hb := C.2.1
  rw [f_row21] at hf
  refine lv_aload_n hx hb dL_law__1639 rfl (lv_at hl 1 rfl) ?_
  refine lv_aload_n hx hb dL_law__1640 rfl (lv_at hl 0 rfl) ?_
  refine lv_iload hx hb dL_law__1641 (lv_at hl 4 rfl) ?_
  refine lv_iconst (v := 1) hx hb dL_law__1643 rfl ?_
  refine lv_iadd hx hb dL_law__1644 ?_
  refine x_sld C hX hbl hbA hS (i := i) (k := 1) rfl (by omega) hL ha1 dL_law__1645 ?_
  refine lv_aload_n hx hb dL_law__1646 rfl (lv_at hl 0 rfl) ?_
  refine lv_iload hx hb dL_law__1647 (lv_at hl 4 rfl) ?_
  refine lv_iconst (v := 2) hx hb dL_law__1649 rfl ?_
  refine lv_iadd hx hb dL_law__1650 ?_
  refine x_sld C hX hbl hbA hS (i := i) (k := 2) rfl (by omega) hL ha2 dL_law__1651 ?_
  refine lv_aload_n hx hb dL_law__1652 rfl (lv_at hl 3 rfl) ?_
  obtain ⟨⟨r1, h1⟩, eq1, hf⟩ := x_bd hf
  refine x_callL C hR hS rfl (S_L_score hst eq1) lw_L_score tw_1258 (Nat.le_of_ble_eq_true rfl) (Nat.le_of_ble_eq_true rfl) (As := [.ref (oX O), .int a1, .int a2, .ref (oX O + 76)]) rfl hl.1 (Nat.le_of_ble_eq_true rfl) dL_law__1653 ⟨by show cells + 3 ≤ room_1.cells; omega, by show slots + 18 ≤ room_1.slots; omega⟩ rfl (fun H locs hR hS => ?_)
  refine lv_istore (lv' := [(5, _), (0, _), (1, _), (2, _), (3, _), (4, _)]) hx hb dL_law__1656 hl (Nat.le_of_ble_eq_true rfl) rfl (fun ls hl => ?_)
  refine lv_aload_n hx hb dL_law__1658 rfl (lv_at hl 3 rfl) ?_
  refine lv_aload_n hx hb dL_law__1659 rfl (lv_at hl 1 rfl) ?_
  refine lv_iload hx hb dL_law__1660 (lv_at hl 5 rfl) ?_
  refine lv_iconst (v := 1) hx hb dL_law__1662 rfl ?_
  refine lv_iadd hx hb dL_law__1663 ?_
  refine x_sld C hX hbl hbA hS (i := i) (k := 1) rfl (by omega) hL ha1 dL_law__1664 ?_
  refine lv_aload_n hx hb dL_law__1665 rfl (lv_at hl 1 rfl) ?_
  refine lv_iload hx hb dL_law__1666 (lv_at hl 5 rfl) ?_
  refine lv_iconst (v := 2) hx hb dL_law__1668 rfl ?_
  refine lv_iadd hx hb dL_law__1669 ?_
  refine x_sld C hX hbl hbA hS (i := i) (k := 2) rfl (by omega) hL ha2 dL_law__1670 ?_
  obtain ⟨q2, eq2, hf⟩ := x_bd hf
  refine x_cVi2 C hR hS (S_X12_score  eq2) (x_k hR 64 rfl) (by decide) rfl mf_X12_score tw_1975 (Nat.le_of_ble_eq_true rfl) (Nat.le_of_ble_eq_true rfl) hl.1 (Nat.le_of_ble_eq_true rfl) dL_law__1671 ⟨by show cells + 3 ≤ room_1.cells; omega, by show slots + 18 ≤ room_1.slots; omega⟩ (fun H locs hR hS => ?_)
  refine lv_istore (lv' := [(6, _), (5, _), (0, _), (1, _), (2, _), (3, _), (4, _)]) hx hb dL_law__1674 hl (Nat.le_of_ble_eq_true rfl) rfl (fun ls hl => ?_)
  refine lv_aload_n hx hb dL_law__1676 rfl (lv_at hl 4 rfl) ?_
  refine x_cVi0 C hR hS (S_X12_thrown  rfl) (x_k hR 64 rfl) (by decide) rfl mf_X12_thrown tw_1533 (Nat.le_of_ble_eq_true rfl) (Nat.le_of_ble_eq_true rfl) hl.1 (Nat.le_of_ble_eq_true rfl) dL_law__1677 ⟨by show cells + 3 ≤ room_1.cells; omega, by show slots + 18 ≤ room_1.slots; omega⟩ (fun H locs hR hS => ?_)
  refine lv_iload hx hb dL_law__1680 (lv_at hl 1 rfl) ?_
  refine lv_icmp_eq (tgt := 1687) hx hb dL_law__1682 rfl (fun hc => ?_) (fun hc => ?_)
  · have hf := x_ip hc hf
    refine lv_iload hx hb dL_law__1687 (lv_at hl 1 rfl) ?_
    refine lv_if_ne (tgt := 1704) hx hb dL_law__1689 rfl (fun hc => ?_) (fun hc => ?_)
    · have hf := x_in hc hf
      refine lv_goto (tgt := 2934) hx hb dL_law__1704 rfl ?_
      cases hf
      exact kx ls _ _ (lv_sub hl [2, 3, 4, 5, 6] rfl) hR hS
    · have hf := x_ip hc hf
      refine lv_aload_n hx hb dL_law__1692 rfl (lv_at hl 5 rfl) ?_
      refine lv_iconst (v := 0) hx hb dL_law__1693 rfl ?_
      obtain ⟨g3, hf⟩ := x_gd hf
      refine x_lald C hR (x_k1 (x_k hR 76 rfl)) (x_k2 (x_k hR 76 rfl) g3) dL_law__1694 ?_
      refine lv_iload hx hb dL_law__1695 (lv_at hl 0 rfl) ?_
      refine lv_i2l hx hb dL_law__1697 rfl ?_
      refine W.lcmp hx hb dL_law__1698 ?_
      refine lv_if_eq (tgt := 1704) hx hb dL_law__1699 rfl (fun hc => ?_) (fun hc => ?_)
      · have hf := x_ip hc hf
        refine lv_goto (tgt := 2934) hx hb dL_law__1704 rfl ?_
        cases hf
        exact kx ls _ _ (lv_sub hl [2, 3, 4, 5, 6] rfl) hR hS
      · have hf := x_in hc hf
        refine lv_iconst (v := 0) hx hb dL_law__1702 rfl ?_
        cases hf
  · have hf := x_in hc hf
    refine lv_iconst (v := 0) hx hb dL_law__1685 rfl ?_
    cases hf
def f_row22 (K : XK) (x : Nat) (h : XH) (a1 : Int32) (a2 : Int32) : Option (XH) := Option.bind (f_L_fits K x h a1 a2) (fun q1 => Option.bind (f_X12_fits x q1.2 a1 a2) (fun q2 => if (f_X12_thrown x q2.2) = q1.1 then if q1.1 = 0 then if x_b 0 1 = true then if (lg_cmp (q2.2.2.1 (x + 76) (0 : Int32).toNatClampNeg) q2.1.toInt64) = 0 then some q2.2 else none else none else some q2.2 else none))
set_option maxRecDepth 20000 in
theorem B_row22 {p : Program} {l : Launch} {e : Env} {s : State} {m : MethodId} {args : Array Value} {below : List Frame} {meth : Method} {c : Code} {O : XO} {K : XK} {h h' : XH} {b L i cells slots : Nat} {xs : Nat → Int32} {Q : State → Prop} {a1 : Int32} {a2 : Int32} (C : x_C p s m args meth c O cL_law_ 8 RL (some .boolean)) (hst : l.stackTraces = false) (hX : va_X b L xs s s.heap) (hbl : b < s.heap.size) (hbA : ¬ oA O b) (hL : L ≤ 3072) (hi : i + 6 ≤ L) (ha1 : xs (i + 1) = a1) (ha2 : xs (i + 2) = a2) (hcl : cells + 40 ≤ room_1.cells) (hsl : slots + 900 ≤ room_1.slots) (ls : Array Slot) (H : Heap) (locs : List Loc) (hl : lv_has ls 8 [(0, .ref b), (1, .ref (oX O)), (2, .ref (oX O + 64)), (3, .ref (oX O + 76)), (4, .int (nI i))]) (hR : x_R O K h H) (hS : va_S (oA O) s.heap H locs) (hf : f_row22 K (oX O) h a1 a2 = some h') (kx : ∀ (ls : Array Slot) (H : Heap) (locs : List Loc), lv_has ls 8 [(0, .ref b), (1, .ref (oX O)), (2, .ref (oX O + 64)), (3, .ref (oX O + 76)), (4, .int (nI i))] → x_R O K h' H → va_S (oA O) s.heap H locs → W p l e room_1 s m args below meth c H locs (cells + 3) (slots + 18) Q (F0 m 2934 ls [])) : W p l e room_1 s m args below meth c H locs cells slots Q (F0 m 1707 ls []) := by
  have hx := C.1
  have hb := C.2.1
  rw [f_row22] at hf
  refine lv_aload_n hx hb dL_law__1707 rfl (lv_at hl 1 rfl) ?_
  refine lv_aload_n hx hb dL_law__1708 rfl (lv_at hl 0 rfl) ?_
  refine lv_iload hx hb dL_law__1709 (lv_at hl 4 rfl) ?_
  refine lv_iconst (v := 1) hx hb dL_law__1711 rfl ?_
  refine lv_iadd hx hb dL_law__1712 ?_
  refine x_sld C hX hbl hbA hS (i := i) (k := 1) rfl (by omega) hL ha1 dL_law__1713 ?_
  refine lv_aload_n hx hb dL_law__1714 rfl (lv_at hl 0 rfl) ?_
  refine lv_iload hx hb dL_law__1715 (lv_at hl 4 rfl) ?_
  refine lv_iconst (v := 2) hx hb dL_law__1717 rfl ?_
  refine lv_iadd hx hb dL_law__1718 ?_
  refine x_sld C hX hbl hbA hS (i := i) (k := 2) rfl (by omega) hL ha2 dL_law__1719 ?_
  refine lv_aload_n hx hb dL_law__1720 rfl (lv_at hl 3 rfl) ?_
  obtain ⟨⟨r1, h1⟩, eq1, hf⟩ := x_bd hf
  refine x_callL C hR hS rfl (S_L_fits hst eq1) lw_L_fits tw_1278 (Nat.le_of_ble_eq_true rfl) (Nat.le_of_ble_eq_true rfl) (As := [.ref (oX O), .int a1, .int a2, .ref (oX O + 76)]) rfl hl.1 (Nat.le_of_ble_eq_true rfl) dL_law__1721 ⟨by show cells + 3 ≤ room_1.cells; omega, by show slots + 18 ≤ room_1.slots; omega⟩ rfl (fun H locs hR hS => ?_)
  refine lv_istore (lv' := [(5, _), (0, _), (1, _), (2, _), (3, _), (4, _)]) hx hb dL_law__1724 hl (Nat.le_of_ble_eq_true rfl) rfl (fun ls hl => ?_)
  refine lv_aload_n hx hb dL_law__1726 rfl (lv_at hl 3 rfl) ?_
  refine lv_aload_n hx hb dL_law__1727 rfl (lv_at hl 1 rfl) ?_
  refine lv_iload hx hb dL_law__1728 (lv_at hl 5 rfl) ?_
  refine lv_iconst (v := 1) hx hb dL_law__1730 rfl ?_
  refine lv_iadd hx hb dL_law__1731 ?_
  refine x_sld C hX hbl hbA hS (i := i) (k := 1) rfl (by omega) hL ha1 dL_law__1732 ?_
  refine lv_aload_n hx hb dL_law__1733 rfl (lv_at hl 1 rfl) ?_
  refine lv_iload hx hb dL_law__1734 (lv_at hl 5 rfl) ?_
  refine lv_iconst (v := 2) hx hb dL_law__1736 rfl ?_
  refine lv_iadd hx hb dL_law__1737 ?_
  refine x_sld C hX hbl hbA hS (i := i) (k := 2) rfl (by omega) hL ha2 dL_law__1738 ?_
  obtain ⟨q2, eq2, hf⟩ := x_bd hf
  refine x_cVi2 C hR hS (S_X12_fits  eq2) (x_k hR 64 rfl) (by decide) rfl mf_X12_fits tw_1987 (Nat.le_of_ble_eq_true rfl) (Nat.le_of_ble_eq_true rfl) hl.1 (Nat.le_of_ble_eq_true rfl) dL_law__1739 ⟨by show cells + 3 ≤ room_1.cells; omega, by show slots + 18 ≤ room_1.slots; omega⟩ (fun H locs hR hS => ?_)
  refine lv_istore (lv' := [(6, _), (5, _), (0, _), (1, _), (2, _), (3, _), (4, _)]) hx hb dL_law__1742 hl (Nat.le_of_ble_eq_true rfl) rfl (fun ls hl => ?_)
  refine lv_aload_n hx hb dL_law__1744 rfl (lv_at hl 4 rfl) ?_
  refine x_cVi0 C hR hS (S_X12_thrown  rfl) (x_k hR 64 rfl) (by decide) rfl mf_X12_thrown tw_1533 (Nat.le_of_ble_eq_true rfl) (Nat.le_of_ble_eq_true rfl) hl.1 (Nat.le_of_ble_eq_true rfl) dL_law__1745 ⟨by show cells + 3 ≤ room_1.cells; omega, by show slots + 18 ≤ room_1.slots; omega⟩ (fun H locs hR hS => ?_)
  refine lv_iload hx hb dL_law__1748 (lv_at hl 1 rfl) ?_
  refine lv_icmp_eq (tgt := 1755) hx hb dL_law__1750 rfl (fun hc => ?_) (fun hc => ?_)
  · have hf := x_ip hc hf
    refine lv_iload hx hb dL_law__1755 (lv_at hl 1 rfl) ?_
    refine lv_if_ne (tgt := 1772) hx hb dL_law__1757 rfl (fun hc => ?_) (fun hc => ?_)
    · have hf := x_in hc hf
      refine lv_goto (tgt := 2934) hx hb dL_law__1772 rfl ?_
      cases hf
      exact kx ls _ _ (lv_sub hl [2, 3, 4, 5, 6] rfl) hR hS
    · have hf := x_ip hc hf
      refine lv_aload_n hx hb dL_law__1760 rfl (lv_at hl 5 rfl) ?_
      refine lv_iconst (v := 0) hx hb dL_law__1761 rfl ?_
      obtain ⟨g3, hf⟩ := x_gd hf
      refine x_lald C hR (x_k1 (x_k hR 76 rfl)) (x_k2 (x_k hR 76 rfl) g3) dL_law__1762 ?_
      refine lv_iload hx hb dL_law__1763 (lv_at hl 0 rfl) ?_
      refine lv_i2l hx hb dL_law__1765 rfl ?_
      refine W.lcmp hx hb dL_law__1766 ?_
      refine lv_if_eq (tgt := 1772) hx hb dL_law__1767 rfl (fun hc => ?_) (fun hc => ?_)
      · have hf := x_ip hc hf
        refine lv_goto (tgt := 2934) hx hb dL_law__1772 rfl ?_
        cases hf
        exact kx ls _ _ (lv_sub hl [2, 3, 4, 5, 6] rfl) hR hS
      · have hf := x_in hc hf
        refine lv_iconst (v := 0) hx hb dL_law__1770 rfl ?_
        cases hf
  · have hf := x_in hc hf
    refine lv_iconst (v := 0) hx hb dL_law__1753 rfl ?_
    cases hf
def f_row23 (x : Nat) (h : XH) (a1 : Int32) (a2 : Int32) : Option (XH) := Option.bind (f_L_lacks x h a1 a2) (fun q1 => Option.bind (f_X12_lacks x q1.2 a1 a2) (fun q2 => if (f_X12_thrown x q2.2) = q1.1 then if q1.1 = 0 then if x_b 0 1 = true then if (lg_cmp (q2.2.2.1 (x + 76) (0 : Int32).toNatClampNeg) q2.1.toInt64) = 0 then some q2.2 else none else none else some q2.2 else none))
set_option maxRecDepth 20000 in
theorem B_row23 {p : Program} {l : Launch} {e : Env} {s : State} {m : MethodId} {args : Array Value} {below : List Frame} {meth : Method} {c : Code} {O : XO} {K : XK} {h h' : XH} {b L i cells slots : Nat} {xs : Nat → Int32} {Q : State → Prop} {a1 : Int32} {a2 : Int32} (C : x_C p s m args meth c O cL_law_ 8 RL (some .boolean)) (hst : l.stackTraces = false) (hX : va_X b L xs s s.heap) (hbl : b < s.heap.size) (hbA : ¬ oA O b) (hL : L ≤ 3072) (hi : i + 6 ≤ L) (ha1 : xs (i + 1) = a1) (ha2 : xs (i + 2) = a2) (hcl : cells + 40 ≤ room_1.cells) (hsl : slots + 900 ≤ room_1.slots) (ls : Array Slot) (H : Heap) (locs : List Loc) (hl : lv_has ls 8 [(0, .ref b), (1, .ref (oX O)), (2, .ref (oX O + 64)), (3, .ref (oX O + 76)), (4, .int (nI i))]) (hR : x_R O K h H) (hS : va_S (oA O) s.heap H locs) (hf : f_row23 (oX O) h a1 a2 = some h') (kx : ∀ (ls : Array Slot) (H : Heap) (locs : List Loc), lv_has ls 8 [(0, .ref b), (1, .ref (oX O)), (2, .ref (oX O + 64)), (3, .ref (oX O + 76)), (4, .int (nI i))] → x_R O K h' H → va_S (oA O) s.heap H locs → W p l e room_1 s m args below meth c H locs (cells + 3) (slots + 18) Q (F0 m 2934 ls [])) : W p l e room_1 s m args below meth c H locs cells slots Q (F0 m 1775 ls []) := by
  have hx := C.1
  have hb := C.2.1
  rw [f_row23] at hf
  refine lv_aload_n hx hb dL_law__1775 rfl (lv_at hl 1 rfl) ?_
  refine lv_aload_n hx hb dL_law__1776 rfl (lv_at hl 0 rfl) ?_
  refine lv_iload hx hb dL_law__1777 (lv_at hl 4 rfl) ?_
  refine lv_iconst (v := 1) hx hb dL_law__1779 rfl ?_
  refine lv_iadd hx hb dL_law__1780 ?_
  refine x_sld C hX hbl hbA hS (i := i) (k := 1) rfl (by omega) hL ha1 dL_law__1781 ?_
  refine lv_aload_n hx hb dL_law__1782 rfl (lv_at hl 0 rfl) ?_
  refine lv_iload hx hb dL_law__1783 (lv_at hl 4 rfl) ?_
  refine lv_iconst (v := 2) hx hb dL_law__1785 rfl ?_
  refine lv_iadd hx hb dL_law__1786 ?_
  refine x_sld C hX hbl hbA hS (i := i) (k := 2) rfl (by omega) hL ha2 dL_law__1787 ?_
  refine lv_aload_n hx hb dL_law__1788 rfl (lv_at hl 3 rfl) ?_
  obtain ⟨⟨r1, h1⟩, eq1, hf⟩ := x_bd hf
  refine x_callL C hR hS rfl (S_L_lacks hst eq1) lw_L_lacks tw_1289 (Nat.le_of_ble_eq_true rfl) (Nat.le_of_ble_eq_true rfl) (As := [.ref (oX O), .int a1, .int a2, .ref (oX O + 76)]) rfl hl.1 (Nat.le_of_ble_eq_true rfl) dL_law__1789 ⟨by show cells + 3 ≤ room_1.cells; omega, by show slots + 18 ≤ room_1.slots; omega⟩ rfl (fun H locs hR hS => ?_)
  refine lv_istore (lv' := [(5, _), (0, _), (1, _), (2, _), (3, _), (4, _)]) hx hb dL_law__1792 hl (Nat.le_of_ble_eq_true rfl) rfl (fun ls hl => ?_)
  refine lv_aload_n hx hb dL_law__1794 rfl (lv_at hl 3 rfl) ?_
  refine lv_aload_n hx hb dL_law__1795 rfl (lv_at hl 1 rfl) ?_
  refine lv_iload hx hb dL_law__1796 (lv_at hl 5 rfl) ?_
  refine lv_iconst (v := 1) hx hb dL_law__1798 rfl ?_
  refine lv_iadd hx hb dL_law__1799 ?_
  refine x_sld C hX hbl hbA hS (i := i) (k := 1) rfl (by omega) hL ha1 dL_law__1800 ?_
  refine lv_aload_n hx hb dL_law__1801 rfl (lv_at hl 1 rfl) ?_
  refine lv_iload hx hb dL_law__1802 (lv_at hl 5 rfl) ?_
  refine lv_iconst (v := 2) hx hb dL_law__1804 rfl ?_
  refine lv_iadd hx hb dL_law__1805 ?_
  refine x_sld C hX hbl hbA hS (i := i) (k := 2) rfl (by omega) hL ha2 dL_law__1806 ?_
  obtain ⟨q2, eq2, hf⟩ := x_bd hf
  refine x_cVi2 C hR hS (S_X12_lacks  eq2) (x_k hR 64 rfl) (by decide) rfl mf_X12_lacks tw_1991 (Nat.le_of_ble_eq_true rfl) (Nat.le_of_ble_eq_true rfl) hl.1 (Nat.le_of_ble_eq_true rfl) dL_law__1807 ⟨by show cells + 3 ≤ room_1.cells; omega, by show slots + 18 ≤ room_1.slots; omega⟩ (fun H locs hR hS => ?_)
  refine lv_istore (lv' := [(6, _), (5, _), (0, _), (1, _), (2, _), (3, _), (4, _)]) hx hb dL_law__1810 hl (Nat.le_of_ble_eq_true rfl) rfl (fun ls hl => ?_)
  refine lv_aload_n hx hb dL_law__1812 rfl (lv_at hl 4 rfl) ?_
  refine x_cVi0 C hR hS (S_X12_thrown  rfl) (x_k hR 64 rfl) (by decide) rfl mf_X12_thrown tw_1533 (Nat.le_of_ble_eq_true rfl) (Nat.le_of_ble_eq_true rfl) hl.1 (Nat.le_of_ble_eq_true rfl) dL_law__1813 ⟨by show cells + 3 ≤ room_1.cells; omega, by show slots + 18 ≤ room_1.slots; omega⟩ (fun H locs hR hS => ?_)
  refine lv_iload hx hb dL_law__1816 (lv_at hl 1 rfl) ?_
  refine lv_icmp_eq (tgt := 1823) hx hb dL_law__1818 rfl (fun hc => ?_) (fun hc => ?_)
  · have hf := x_ip hc hf
    refine lv_iload hx hb dL_law__1823 (lv_at hl 1 rfl) ?_
    refine lv_if_ne (tgt := 1840) hx hb dL_law__1825 rfl (fun hc => ?_) (fun hc => ?_)
    · have hf := x_in hc hf
      refine lv_goto (tgt := 2934) hx hb dL_law__1840 rfl ?_
      cases hf
      exact kx ls _ _ (lv_sub hl [2, 3, 4, 5, 6] rfl) hR hS
    · have hf := x_ip hc hf
      refine lv_aload_n hx hb dL_law__1828 rfl (lv_at hl 5 rfl) ?_
      refine lv_iconst (v := 0) hx hb dL_law__1829 rfl ?_
      obtain ⟨g3, hf⟩ := x_gd hf
      refine x_lald C hR (x_k1 (x_k hR 76 rfl)) (x_k2 (x_k hR 76 rfl) g3) dL_law__1830 ?_
      refine lv_iload hx hb dL_law__1831 (lv_at hl 0 rfl) ?_
      refine lv_i2l hx hb dL_law__1833 rfl ?_
      refine W.lcmp hx hb dL_law__1834 ?_
      refine lv_if_eq (tgt := 1840) hx hb dL_law__1835 rfl (fun hc => ?_) (fun hc => ?_)
      · have hf := x_ip hc hf
        refine lv_goto (tgt := 2934) hx hb dL_law__1840 rfl ?_
        cases hf
        exact kx ls _ _ (lv_sub hl [2, 3, 4, 5, 6] rfl) hR hS
      · have hf := x_in hc hf
        refine lv_iconst (v := 0) hx hb dL_law__1838 rfl ?_
        cases hf
  · have hf := x_in hc hf
    refine lv_iconst (v := 0) hx hb dL_law__1821 rfl ?_
    cases hf
def f_row24 (K : XK) (x : Nat) (h : XH) (a1 : Int32) (a2 : Int32) (a3 : Int32) : Option (XH) := Option.bind (f_L_guess K x h a1 a2 a3) (fun q1 => Option.bind (f_X12_guess x q1.2 a1 a2 a3) (fun q2 => if (f_X12_thrown x q2.2) = q1.1 then if q1.1 = 0 then if x_b 0 1 = true then if (lg_cmp (q2.2.2.1 (x + 76) (0 : Int32).toNatClampNeg) q2.1.toInt64) = 0 then some q2.2 else none else none else some q2.2 else none))
set_option maxRecDepth 20000 in
theorem B_row24 {p : Program} {l : Launch} {e : Env} {s : State} {m : MethodId} {args : Array Value} {below : List Frame} {meth : Method} {c : Code} {O : XO} {K : XK} {h h' : XH} {b L i cells slots : Nat} {xs : Nat → Int32} {Q : State → Prop} {a1 : Int32} {a2 : Int32} {a3 : Int32} (C : x_C p s m args meth c O cL_law_ 8 RL (some .boolean)) (hst : l.stackTraces = false) (hX : va_X b L xs s s.heap) (hbl : b < s.heap.size) (hbA : ¬ oA O b) (hL : L ≤ 3072) (hi : i + 6 ≤ L) (ha1 : xs (i + 1) = a1) (ha2 : xs (i + 2) = a2) (ha3 : xs (i + 3) = a3) (hcl : cells + 40 ≤ room_1.cells) (hsl : slots + 900 ≤ room_1.slots) (ls : Array Slot) (H : Heap) (locs : List Loc) (hl : lv_has ls 8 [(0, .ref b), (1, .ref (oX O)), (2, .ref (oX O + 64)), (3, .ref (oX O + 76)), (4, .int (nI i))]) (hR : x_R O K h H) (hS : va_S (oA O) s.heap H locs) (hf : f_row24 K (oX O) h a1 a2 a3 = some h') (kx : ∀ (ls : Array Slot) (H : Heap) (locs : List Loc), lv_has ls 8 [(0, .ref b), (1, .ref (oX O)), (2, .ref (oX O + 64)), (3, .ref (oX O + 76)), (4, .int (nI i))] → x_R O K h' H → va_S (oA O) s.heap H locs → W p l e room_1 s m args below meth c H locs (cells + 4) (slots + 24) Q (F0 m 2934 ls [])) : W p l e room_1 s m args below meth c H locs cells slots Q (F0 m 1843 ls []) := by
  have hx := C.1
  have hb := C.2.1
  rw [f_row24] at hf
  refine lv_aload_n hx hb dL_law__1843 rfl (lv_at hl 1 rfl) ?_
  refine lv_aload_n hx hb dL_law__1844 rfl (lv_at hl 0 rfl) ?_
  refine lv_iload hx hb dL_law__1845 (lv_at hl 4 rfl) ?_
  refine lv_iconst (v := 1) hx hb dL_law__1847 rfl ?_
  refine lv_iadd hx hb dL_law__1848 ?_
  refine x_sld C hX hbl hbA hS (i := i) (k := 1) rfl (by omega) hL ha1 dL_law__1849 ?_
  refine lv_aload_n hx hb dL_law__1850 rfl (lv_at hl 0 rfl) ?_
  refine lv_iload hx hb dL_law__1851 (lv_at hl 4 rfl) ?_
  refine lv_iconst (v := 2) hx hb dL_law__1853 rfl ?_
  refine lv_iadd hx hb dL_law__1854 ?_
  refine x_sld C hX hbl hbA hS (i := i) (k := 2) rfl (by omega) hL ha2 dL_law__1855 ?_
  refine lv_aload_n hx hb dL_law__1856 rfl (lv_at hl 0 rfl) ?_
  refine lv_iload hx hb dL_law__1857 (lv_at hl 4 rfl) ?_
  refine lv_iconst (v := 3) hx hb dL_law__1859 rfl ?_
  refine lv_iadd hx hb dL_law__1860 ?_
  refine x_sld C hX hbl hbA hS (i := i) (k := 3) rfl (by omega) hL ha3 dL_law__1861 ?_
  refine lv_aload_n hx hb dL_law__1862 rfl (lv_at hl 3 rfl) ?_
  obtain ⟨⟨r1, h1⟩, eq1, hf⟩ := x_bd hf
  refine x_callL C hR hS rfl (S_L_guess hst eq1) lw_L_guess tw_1309 (Nat.le_of_ble_eq_true rfl) (Nat.le_of_ble_eq_true rfl) (As := [.ref (oX O), .int a1, .int a2, .int a3, .ref (oX O + 76)]) rfl hl.1 (Nat.le_of_ble_eq_true rfl) dL_law__1863 ⟨by show cells + 4 ≤ room_1.cells; omega, by show slots + 24 ≤ room_1.slots; omega⟩ rfl (fun H locs hR hS => ?_)
  refine lv_istore (lv' := [(5, _), (0, _), (1, _), (2, _), (3, _), (4, _)]) hx hb dL_law__1866 hl (Nat.le_of_ble_eq_true rfl) rfl (fun ls hl => ?_)
  refine lv_aload_n hx hb dL_law__1868 rfl (lv_at hl 3 rfl) ?_
  refine lv_aload_n hx hb dL_law__1869 rfl (lv_at hl 1 rfl) ?_
  refine lv_iload hx hb dL_law__1870 (lv_at hl 5 rfl) ?_
  refine lv_iconst (v := 1) hx hb dL_law__1872 rfl ?_
  refine lv_iadd hx hb dL_law__1873 ?_
  refine x_sld C hX hbl hbA hS (i := i) (k := 1) rfl (by omega) hL ha1 dL_law__1874 ?_
  refine lv_aload_n hx hb dL_law__1875 rfl (lv_at hl 1 rfl) ?_
  refine lv_iload hx hb dL_law__1876 (lv_at hl 5 rfl) ?_
  refine lv_iconst (v := 2) hx hb dL_law__1878 rfl ?_
  refine lv_iadd hx hb dL_law__1879 ?_
  refine x_sld C hX hbl hbA hS (i := i) (k := 2) rfl (by omega) hL ha2 dL_law__1880 ?_
  refine lv_aload_n hx hb dL_law__1881 rfl (lv_at hl 1 rfl) ?_
  refine lv_iload hx hb dL_law__1882 (lv_at hl 5 rfl) ?_
  refine lv_iconst (v := 3) hx hb dL_law__1884 rfl ?_
  refine lv_iadd hx hb dL_law__1885 ?_
  refine x_sld C hX hbl hbA hS (i := i) (k := 3) rfl (by omega) hL ha3 dL_law__1886 ?_
  obtain ⟨q2, eq2, hf⟩ := x_bd hf
  refine x_cVi3 C hR hS (S_X12_guess  eq2) (x_k hR 64 rfl) (by decide) rfl mf_X12_guess tw_2007 (Nat.le_of_ble_eq_true rfl) (Nat.le_of_ble_eq_true rfl) hl.1 (Nat.le_of_ble_eq_true rfl) dL_law__1887 ⟨by show cells + 4 ≤ room_1.cells; omega, by show slots + 24 ≤ room_1.slots; omega⟩ (fun H locs hR hS => ?_)
  refine lv_istore (lv' := [(6, _), (5, _), (0, _), (1, _), (2, _), (3, _), (4, _)]) hx hb dL_law__1890 hl (Nat.le_of_ble_eq_true rfl) rfl (fun ls hl => ?_)
  refine lv_aload_n hx hb dL_law__1892 rfl (lv_at hl 4 rfl) ?_
  refine x_cVi0 C hR hS (S_X12_thrown  rfl) (x_k hR 64 rfl) (by decide) rfl mf_X12_thrown tw_1533 (Nat.le_of_ble_eq_true rfl) (Nat.le_of_ble_eq_true rfl) hl.1 (Nat.le_of_ble_eq_true rfl) dL_law__1893 ⟨by show cells + 4 ≤ room_1.cells; omega, by show slots + 24 ≤ room_1.slots; omega⟩ (fun H locs hR hS => ?_)
  refine lv_iload hx hb dL_law__1896 (lv_at hl 1 rfl) ?_
  refine lv_icmp_eq (tgt := 1903) hx hb dL_law__1898 rfl (fun hc => ?_) (fun hc => ?_)
  · have hf := x_ip hc hf
    refine lv_iload hx hb dL_law__1903 (lv_at hl 1 rfl) ?_
    refine lv_if_ne (tgt := 1920) hx hb dL_law__1905 rfl (fun hc => ?_) (fun hc => ?_)
    · have hf := x_in hc hf
      refine lv_goto (tgt := 2934) hx hb dL_law__1920 rfl ?_
      cases hf
      exact kx ls _ _ (lv_sub hl [2, 3, 4, 5, 6] rfl) hR hS
    · have hf := x_ip hc hf
      refine lv_aload_n hx hb dL_law__1908 rfl (lv_at hl 5 rfl) ?_
      refine lv_iconst (v := 0) hx hb dL_law__1909 rfl ?_
      obtain ⟨g3, hf⟩ := x_gd hf
      refine x_lald C hR (x_k1 (x_k hR 76 rfl)) (x_k2 (x_k hR 76 rfl) g3) dL_law__1910 ?_
      refine lv_iload hx hb dL_law__1911 (lv_at hl 0 rfl) ?_
      refine lv_i2l hx hb dL_law__1913 rfl ?_
      refine W.lcmp hx hb dL_law__1914 ?_
      refine lv_if_eq (tgt := 1920) hx hb dL_law__1915 rfl (fun hc => ?_) (fun hc => ?_)
      · have hf := x_ip hc hf
        refine lv_goto (tgt := 2934) hx hb dL_law__1920 rfl ?_
        cases hf
        exact kx ls _ _ (lv_sub hl [2, 3, 4, 5, 6] rfl) hR hS
      · have hf := x_in hc hf
        refine lv_iconst (v := 0) hx hb dL_law__1918 rfl ?_
        cases hf
  · have hf := x_in hc hf
    refine lv_iconst (v := 0) hx hb dL_law__1901 rfl ?_
    cases hf
def f_row25 (x : Nat) (h : XH) (a1 : Int32) : Option (XH) := Option.bind (f_L_moment x h a1) (fun q1 => Option.bind (f_X12_moment x q1.2 a1) (fun q2 => if (f_X12_thrown x q2.2) = q1.1 then if q1.1 = 0 then if x_b 0 1 = true then if (lg_cmp (q2.2.2.1 (x + 76) (0 : Int32).toNatClampNeg) q2.1.toInt64) = 0 then some q2.2 else none else none else some q2.2 else none))
set_option maxRecDepth 20000 in
theorem B_row25 {p : Program} {l : Launch} {e : Env} {s : State} {m : MethodId} {args : Array Value} {below : List Frame} {meth : Method} {c : Code} {O : XO} {K : XK} {h h' : XH} {b L i cells slots : Nat} {xs : Nat → Int32} {Q : State → Prop} {a1 : Int32} (C : x_C p s m args meth c O cL_law_ 8 RL (some .boolean)) (hst : l.stackTraces = false) (hX : va_X b L xs s s.heap) (hbl : b < s.heap.size) (hbA : ¬ oA O b) (hL : L ≤ 3072) (hi : i + 6 ≤ L) (ha1 : xs (i + 1) = a1) (hcl : cells + 40 ≤ room_1.cells) (hsl : slots + 900 ≤ room_1.slots) (ls : Array Slot) (H : Heap) (locs : List Loc) (hl : lv_has ls 8 [(0, .ref b), (1, .ref (oX O)), (2, .ref (oX O + 64)), (3, .ref (oX O + 76)), (4, .int (nI i))]) (hR : x_R O K h H) (hS : va_S (oA O) s.heap H locs) (hf : f_row25 (oX O) h a1 = some h') (kx : ∀ (ls : Array Slot) (H : Heap) (locs : List Loc), lv_has ls 8 [(0, .ref b), (1, .ref (oX O)), (2, .ref (oX O + 64)), (3, .ref (oX O + 76)), (4, .int (nI i))] → x_R O K h' H → va_S (oA O) s.heap H locs → W p l e room_1 s m args below meth c H locs (cells + 1) (slots + 6) Q (F0 m 2934 ls [])) : W p l e room_1 s m args below meth c H locs cells slots Q (F0 m 1923 ls []) := by
  have hx := C.1
  have hb := C.2.1
  rw [f_row25] at hf
  refine lv_aload_n hx hb dL_law__1923 rfl (lv_at hl 1 rfl) ?_
  refine lv_aload_n hx hb dL_law__1924 rfl (lv_at hl 0 rfl) ?_
  refine lv_iload hx hb dL_law__1925 (lv_at hl 4 rfl) ?_
  refine lv_iconst (v := 1) hx hb dL_law__1927 rfl ?_
  refine lv_iadd hx hb dL_law__1928 ?_
  refine x_sld C hX hbl hbA hS (i := i) (k := 1) rfl (by omega) hL ha1 dL_law__1929 ?_
  refine lv_aload_n hx hb dL_law__1930 rfl (lv_at hl 3 rfl) ?_
  obtain ⟨⟨r1, h1⟩, eq1, hf⟩ := x_bd hf
  refine x_callL C hR hS rfl (S_L_moment hst eq1) lw_L_moment tw_1341 (Nat.le_of_ble_eq_true rfl) (Nat.le_of_ble_eq_true rfl) (As := [.ref (oX O), .int a1, .ref (oX O + 76)]) rfl hl.1 (Nat.le_of_ble_eq_true rfl) dL_law__1931 ⟨by show cells + 1 ≤ room_1.cells; omega, by show slots + 6 ≤ room_1.slots; omega⟩ rfl (fun H locs hR hS => ?_)
  refine lv_istore (lv' := [(5, _), (0, _), (1, _), (2, _), (3, _), (4, _)]) hx hb dL_law__1934 hl (Nat.le_of_ble_eq_true rfl) rfl (fun ls hl => ?_)
  refine lv_aload_n hx hb dL_law__1936 rfl (lv_at hl 3 rfl) ?_
  refine lv_aload_n hx hb dL_law__1937 rfl (lv_at hl 1 rfl) ?_
  refine lv_iload hx hb dL_law__1938 (lv_at hl 5 rfl) ?_
  refine lv_iconst (v := 1) hx hb dL_law__1940 rfl ?_
  refine lv_iadd hx hb dL_law__1941 ?_
  refine x_sld C hX hbl hbA hS (i := i) (k := 1) rfl (by omega) hL ha1 dL_law__1942 ?_
  obtain ⟨q2, eq2, hf⟩ := x_bd hf
  refine x_cVi1 C hR hS (S_X12_moment  eq2) (x_k hR 64 rfl) (by decide) rfl mf_X12_moment tw_2015 (Nat.le_of_ble_eq_true rfl) (Nat.le_of_ble_eq_true rfl) hl.1 (Nat.le_of_ble_eq_true rfl) dL_law__1943 ⟨by show cells + 1 ≤ room_1.cells; omega, by show slots + 6 ≤ room_1.slots; omega⟩ (fun H locs hR hS => ?_)
  refine lv_istore (lv' := [(6, _), (5, _), (0, _), (1, _), (2, _), (3, _), (4, _)]) hx hb dL_law__1946 hl (Nat.le_of_ble_eq_true rfl) rfl (fun ls hl => ?_)
  refine lv_aload_n hx hb dL_law__1948 rfl (lv_at hl 4 rfl) ?_
  refine x_cVi0 C hR hS (S_X12_thrown  rfl) (x_k hR 64 rfl) (by decide) rfl mf_X12_thrown tw_1533 (Nat.le_of_ble_eq_true rfl) (Nat.le_of_ble_eq_true rfl) hl.1 (Nat.le_of_ble_eq_true rfl) dL_law__1949 ⟨by show cells + 1 ≤ room_1.cells; omega, by show slots + 6 ≤ room_1.slots; omega⟩ (fun H locs hR hS => ?_)
  refine lv_iload hx hb dL_law__1952 (lv_at hl 1 rfl) ?_
  refine lv_icmp_eq (tgt := 1959) hx hb dL_law__1954 rfl (fun hc => ?_) (fun hc => ?_)
  · have hf := x_ip hc hf
    refine lv_iload hx hb dL_law__1959 (lv_at hl 1 rfl) ?_
    refine lv_if_ne (tgt := 1976) hx hb dL_law__1961 rfl (fun hc => ?_) (fun hc => ?_)
    · have hf := x_in hc hf
      refine lv_goto (tgt := 2934) hx hb dL_law__1976 rfl ?_
      cases hf
      exact kx ls _ _ (lv_sub hl [2, 3, 4, 5, 6] rfl) hR hS
    · have hf := x_ip hc hf
      refine lv_aload_n hx hb dL_law__1964 rfl (lv_at hl 5 rfl) ?_
      refine lv_iconst (v := 0) hx hb dL_law__1965 rfl ?_
      obtain ⟨g3, hf⟩ := x_gd hf
      refine x_lald C hR (x_k1 (x_k hR 76 rfl)) (x_k2 (x_k hR 76 rfl) g3) dL_law__1966 ?_
      refine lv_iload hx hb dL_law__1967 (lv_at hl 0 rfl) ?_
      refine lv_i2l hx hb dL_law__1969 rfl ?_
      refine W.lcmp hx hb dL_law__1970 ?_
      refine lv_if_eq (tgt := 1976) hx hb dL_law__1971 rfl (fun hc => ?_) (fun hc => ?_)
      · have hf := x_ip hc hf
        refine lv_goto (tgt := 2934) hx hb dL_law__1976 rfl ?_
        cases hf
        exact kx ls _ _ (lv_sub hl [2, 3, 4, 5, 6] rfl) hR hS
      · have hf := x_in hc hf
        refine lv_iconst (v := 0) hx hb dL_law__1974 rfl ?_
        cases hf
  · have hf := x_in hc hf
    refine lv_iconst (v := 0) hx hb dL_law__1957 rfl ?_
    cases hf
def f_row26 (x : Nat) (h : XH) : Option (XH) := x_let (f_X11_moments x h) (fun q1 => Option.bind (f_X12_moments x q1.2) (fun q2 => if q1.1 = q2.1 then some q2.2 else none))
set_option maxRecDepth 20000 in
theorem B_row26 {p : Program} {l : Launch} {e : Env} {s : State} {m : MethodId} {args : Array Value} {below : List Frame} {meth : Method} {c : Code} {O : XO} {K : XK} {h h' : XH} {b L i cells slots : Nat} {xs : Nat → Int32} {Q : State → Prop} (C : x_C p s m args meth c O cL_law_ 8 RL (some .boolean)) (hst : l.stackTraces = false) (hX : va_X b L xs s s.heap) (hbl : b < s.heap.size) (hbA : ¬ oA O b) (hL : L ≤ 3072) (hi : i + 6 ≤ L) (hcl : cells + 40 ≤ room_1.cells) (hsl : slots + 900 ≤ room_1.slots) (ls : Array Slot) (H : Heap) (locs : List Loc) (hl : lv_has ls 8 [(0, .ref b), (1, .ref (oX O)), (2, .ref (oX O + 64)), (3, .ref (oX O + 76)), (4, .int (nI i))]) (hR : x_R O K h H) (hS : va_S (oA O) s.heap H locs) (hf : f_row26 (oX O) h = some h') (kx : ∀ (ls : Array Slot) (H : Heap) (locs : List Loc), lv_has ls 8 [(0, .ref b), (1, .ref (oX O)), (2, .ref (oX O + 64)), (3, .ref (oX O + 76)), (4, .int (nI i))] → x_R O K h' H → va_S (oA O) s.heap H locs → W p l e room_1 s m args below meth c H locs (cells) (slots) Q (F0 m 2934 ls [])) : W p l e room_1 s m args below meth c H locs cells slots Q (F0 m 1979 ls []) := by
  have hx := C.1
  have hb := C.2.1
  rw [f_row26] at hf
  refine lv_aload_n hx hb dL_law__1979 rfl (lv_at hl 1 rfl) ?_
  obtain ⟨q1, eq1, hf⟩ := x_lt hf
  refine x_cVi0 C hR hS (S_X11_moments  eq1.symm) (x_k hR 0 rfl) (by decide) rfl mf_X11_moments tw_543 (Nat.le_of_ble_eq_true rfl) (Nat.le_of_ble_eq_true rfl) hl.1 (Nat.le_of_ble_eq_true rfl) dL_law__1980 ⟨by show cells ≤ room_1.cells; omega, by show slots ≤ room_1.slots; omega⟩ (fun H locs hR hS => ?_)
  refine lv_aload_n hx hb dL_law__1983 rfl (lv_at hl 2 rfl) ?_
  obtain ⟨q2, eq2, hf⟩ := x_bd hf
  refine x_cVi0 C hR hS (S_X12_moments  eq2) (x_k hR 64 rfl) (by decide) rfl mf_X12_moments tw_2020 (Nat.le_of_ble_eq_true rfl) (Nat.le_of_ble_eq_true rfl) hl.1 (Nat.le_of_ble_eq_true rfl) dL_law__1984 ⟨by show cells ≤ room_1.cells; omega, by show slots ≤ room_1.slots; omega⟩ (fun H locs hR hS => ?_)
  refine lv_icmp_eq (tgt := 2934) hx hb dL_law__1987 rfl (fun hc => ?_) (fun hc => ?_)
  · have hf := x_ip hc hf
    cases hf
    exact kx ls _ _ (lv_sub hl [0, 1, 2, 3, 4] rfl) hR hS
  · have hf := x_in hc hf
    refine lv_iconst (v := 0) hx hb dL_law__1990 rfl ?_
    cases hf
def f_row27 (K : XK) (x : Nat) (h : XH) (a1 : Int32) (a2 : Int32) (a3 : Int32) (a4 : Int32) (a5 : Int32) : Option (XH) := Option.bind (f_L_again K x h a1 a2 a3 a4 (if a5 = 0 then 0 else 1)) (fun q2 => Option.bind (f_X12_again x q2.2 a1 a2 a3 a4 (if a5 = 0 then 0 else 1)) (fun q4 => if (f_X12_thrown x q4.2) = q2.1 then if q2.1 = 0 then if x_b 0 1 = true then if (lg_cmp (q4.2.2.1 (x + 76) (0 : Int32).toNatClampNeg) q4.1.toInt64) = 0 then some q4.2 else none else none else some q4.2 else none))
set_option maxRecDepth 20000 in
theorem B_row27 {p : Program} {l : Launch} {e : Env} {s : State} {m : MethodId} {args : Array Value} {below : List Frame} {meth : Method} {c : Code} {O : XO} {K : XK} {h h' : XH} {b L i cells slots : Nat} {xs : Nat → Int32} {Q : State → Prop} {a1 : Int32} {a2 : Int32} {a3 : Int32} {a4 : Int32} {a5 : Int32} (C : x_C p s m args meth c O cL_law_ 8 RL (some .boolean)) (hst : l.stackTraces = false) (hX : va_X b L xs s s.heap) (hbl : b < s.heap.size) (hbA : ¬ oA O b) (hL : L ≤ 3072) (hi : i + 6 ≤ L) (ha1 : xs (i + 1) = a1) (ha2 : xs (i + 2) = a2) (ha3 : xs (i + 3) = a3) (ha4 : xs (i + 4) = a4) (ha5 : xs (i + 5) = a5) (hcl : cells + 40 ≤ room_1.cells) (hsl : slots + 900 ≤ room_1.slots) (ls : Array Slot) (H : Heap) (locs : List Loc) (hl : lv_has ls 8 [(0, .ref b), (1, .ref (oX O)), (2, .ref (oX O + 64)), (3, .ref (oX O + 76)), (4, .int (nI i))]) (hR : x_R O K h H) (hS : va_S (oA O) s.heap H locs) (hf : f_row27 K (oX O) h a1 a2 a3 a4 a5 = some h') (kx : ∀ (ls : Array Slot) (H : Heap) (locs : List Loc), lv_has ls 8 [(0, .ref b), (1, .ref (oX O)), (2, .ref (oX O + 64)), (3, .ref (oX O + 76)), (4, .int (nI i))] → x_R O K h' H → va_S (oA O) s.heap H locs → W p l e room_1 s m args below meth c H locs (cells + 4) (slots + 24) Q (F0 m 2934 ls [])) : W p l e room_1 s m args below meth c H locs cells slots Q (F0 m 1992 ls []) := by
  have hx := C.1
  have hb := C.2.1
  rw [f_row27] at hf
  refine lv_aload_n hx hb dL_law__1992 rfl (lv_at hl 1 rfl) ?_
  refine lv_aload_n hx hb dL_law__1993 rfl (lv_at hl 0 rfl) ?_
  refine lv_iload hx hb dL_law__1994 (lv_at hl 4 rfl) ?_
  refine lv_iconst (v := 1) hx hb dL_law__1996 rfl ?_
  refine lv_iadd hx hb dL_law__1997 ?_
  refine x_sld C hX hbl hbA hS (i := i) (k := 1) rfl (by omega) hL ha1 dL_law__1998 ?_
  refine lv_aload_n hx hb dL_law__1999 rfl (lv_at hl 0 rfl) ?_
  refine lv_iload hx hb dL_law__2000 (lv_at hl 4 rfl) ?_
  refine lv_iconst (v := 2) hx hb dL_law__2002 rfl ?_
  refine lv_iadd hx hb dL_law__2003 ?_
  refine x_sld C hX hbl hbA hS (i := i) (k := 2) rfl (by omega) hL ha2 dL_law__2004 ?_
  refine lv_aload_n hx hb dL_law__2005 rfl (lv_at hl 0 rfl) ?_
  refine lv_iload hx hb dL_law__2006 (lv_at hl 4 rfl) ?_
  refine lv_iconst (v := 3) hx hb dL_law__2008 rfl ?_
  refine lv_iadd hx hb dL_law__2009 ?_
  refine x_sld C hX hbl hbA hS (i := i) (k := 3) rfl (by omega) hL ha3 dL_law__2010 ?_
  refine lv_aload_n hx hb dL_law__2011 rfl (lv_at hl 0 rfl) ?_
  refine lv_iload hx hb dL_law__2012 (lv_at hl 4 rfl) ?_
  refine lv_iconst (v := 4) hx hb dL_law__2014 rfl ?_
  refine lv_iadd hx hb dL_law__2015 ?_
  refine x_sld C hX hbl hbA hS (i := i) (k := 4) rfl (by omega) hL ha4 dL_law__2016 ?_
  refine lv_aload_n hx hb dL_law__2017 rfl (lv_at hl 0 rfl) ?_
  refine lv_iload hx hb dL_law__2018 (lv_at hl 4 rfl) ?_
  refine lv_iconst (v := 5) hx hb dL_law__2020 rfl ?_
  refine lv_iadd hx hb dL_law__2021 ?_
  refine x_sld C hX hbl hbA hS (i := i) (k := 5) rfl (by omega) hL ha5 dL_law__2022 ?_
  have kM1 : ∀ (ls : Array Slot) (H : Heap) (locs : List Loc), lv_has ls 8 [(0, .ref b), (1, .ref (oX O)), (2, .ref (oX O + 64)), (3, .ref (oX O + 76)), (4, .int (nI i))] → x_R O K h H → va_S (oA O) s.heap H locs → W p l e room_1 s m args below meth c H locs (cells) (slots) Q (F0 m 2031 ls [.int (if a5 = 0 then 0 else 1), .int a4, .int a3, .int a2, .int a1, .ref (oX O)]) := by
    intro ls H locs hl hR hS
    refine lv_aload_n hx hb dL_law__2031 rfl (lv_at hl 3 rfl) ?_
    obtain ⟨⟨r2, h2⟩, eq2, hf⟩ := x_bd hf
    refine x_callL C hR hS rfl (S_L_again hst eq2) lw_L_again tw_1355 (Nat.le_of_ble_eq_true rfl) (Nat.le_of_ble_eq_true rfl) (As := [.ref (oX O), .int a1, .int a2, .int a3, .int a4, .int (if a5 = 0 then 0 else 1), .ref (oX O + 76)]) rfl hl.1 (Nat.le_of_ble_eq_true rfl) dL_law__2032 ⟨by show cells + 4 ≤ room_1.cells; omega, by show slots + 24 ≤ room_1.slots; omega⟩ rfl (fun H locs hR hS => ?_)
    refine lv_istore (lv' := [(5, _), (0, _), (1, _), (2, _), (3, _), (4, _)]) hx hb dL_law__2035 hl (Nat.le_of_ble_eq_true rfl) rfl (fun ls hl => ?_)
    refine lv_aload_n hx hb dL_law__2037 rfl (lv_at hl 3 rfl) ?_
    refine lv_aload_n hx hb dL_law__2038 rfl (lv_at hl 1 rfl) ?_
    refine lv_iload hx hb dL_law__2039 (lv_at hl 5 rfl) ?_
    refine lv_iconst (v := 1) hx hb dL_law__2041 rfl ?_
    refine lv_iadd hx hb dL_law__2042 ?_
    refine x_sld C hX hbl hbA hS (i := i) (k := 1) rfl (by omega) hL ha1 dL_law__2043 ?_
    refine lv_aload_n hx hb dL_law__2044 rfl (lv_at hl 1 rfl) ?_
    refine lv_iload hx hb dL_law__2045 (lv_at hl 5 rfl) ?_
    refine lv_iconst (v := 2) hx hb dL_law__2047 rfl ?_
    refine lv_iadd hx hb dL_law__2048 ?_
    refine x_sld C hX hbl hbA hS (i := i) (k := 2) rfl (by omega) hL ha2 dL_law__2049 ?_
    refine lv_aload_n hx hb dL_law__2050 rfl (lv_at hl 1 rfl) ?_
    refine lv_iload hx hb dL_law__2051 (lv_at hl 5 rfl) ?_
    refine lv_iconst (v := 3) hx hb dL_law__2053 rfl ?_
    refine lv_iadd hx hb dL_law__2054 ?_
    refine x_sld C hX hbl hbA hS (i := i) (k := 3) rfl (by omega) hL ha3 dL_law__2055 ?_
    refine lv_aload_n hx hb dL_law__2056 rfl (lv_at hl 1 rfl) ?_
    refine lv_iload hx hb dL_law__2057 (lv_at hl 5 rfl) ?_
    refine lv_iconst (v := 4) hx hb dL_law__2059 rfl ?_
    refine lv_iadd hx hb dL_law__2060 ?_
    refine x_sld C hX hbl hbA hS (i := i) (k := 4) rfl (by omega) hL ha4 dL_law__2061 ?_
    refine lv_aload_n hx hb dL_law__2062 rfl (lv_at hl 1 rfl) ?_
    refine lv_iload hx hb dL_law__2063 (lv_at hl 5 rfl) ?_
    refine lv_iconst (v := 5) hx hb dL_law__2065 rfl ?_
    refine lv_iadd hx hb dL_law__2066 ?_
    refine x_sld C hX hbl hbA hS (i := i) (k := 5) rfl (by omega) hL ha5 dL_law__2067 ?_
    have kM3 : ∀ (ls : Array Slot) (H : Heap) (locs : List Loc), lv_has ls 8 [(0, .ref b), (1, .ref (oX O)), (2, .ref (oX O + 64)), (3, .ref (oX O + 76)), (4, .int (nI i)), (5, .int r2)] → x_R O K h2 H → va_S (oA O) s.heap H locs → W p l e room_1 s m args below meth c H locs (cells + 4) (slots + 24) Q (F0 m 2076 ls [.int (if a5 = 0 then 0 else 1), .int a4, .int a3, .int a2, .int a1, .ref (oX O + 64)]) := by
      intro ls H locs hl hR hS
      obtain ⟨q4, eq4, hf⟩ := x_bd hf
      refine x_cVi5 C hR hS (S_X12_again  eq4) (x_k hR 64 rfl) (by decide) rfl mf_X12_again tw_2024 (Nat.le_of_ble_eq_true rfl) (Nat.le_of_ble_eq_true rfl) hl.1 (Nat.le_of_ble_eq_true rfl) dL_law__2076 ⟨by show cells + 4 ≤ room_1.cells; omega, by show slots + 24 ≤ room_1.slots; omega⟩ (fun H locs hR hS => ?_)
      refine lv_istore (lv' := [(6, _), (0, _), (1, _), (2, _), (3, _), (4, _), (5, _)]) hx hb dL_law__2079 hl (Nat.le_of_ble_eq_true rfl) rfl (fun ls hl => ?_)
      refine lv_aload_n hx hb dL_law__2081 rfl (lv_at hl 3 rfl) ?_
      refine x_cVi0 C hR hS (S_X12_thrown  rfl) (x_k hR 64 rfl) (by decide) rfl mf_X12_thrown tw_1533 (Nat.le_of_ble_eq_true rfl) (Nat.le_of_ble_eq_true rfl) hl.1 (Nat.le_of_ble_eq_true rfl) dL_law__2082 ⟨by show cells + 4 ≤ room_1.cells; omega, by show slots + 24 ≤ room_1.slots; omega⟩ (fun H locs hR hS => ?_)
      refine lv_iload hx hb dL_law__2085 (lv_at hl 6 rfl) ?_
      refine lv_icmp_eq (tgt := 2092) hx hb dL_law__2087 rfl (fun hc => ?_) (fun hc => ?_)
      · have hf := x_ip hc hf
        refine lv_iload hx hb dL_law__2092 (lv_at hl 6 rfl) ?_
        refine lv_if_ne (tgt := 2109) hx hb dL_law__2094 rfl (fun hc => ?_) (fun hc => ?_)
        · have hf := x_in hc hf
          refine lv_goto (tgt := 2934) hx hb dL_law__2109 rfl ?_
          cases hf
          exact kx ls _ _ (lv_sub hl [1, 2, 3, 4, 5] rfl) hR hS
        · have hf := x_ip hc hf
          refine lv_aload_n hx hb dL_law__2097 rfl (lv_at hl 4 rfl) ?_
          refine lv_iconst (v := 0) hx hb dL_law__2098 rfl ?_
          obtain ⟨g5, hf⟩ := x_gd hf
          refine x_lald C hR (x_k1 (x_k hR 76 rfl)) (x_k2 (x_k hR 76 rfl) g5) dL_law__2099 ?_
          refine lv_iload hx hb dL_law__2100 (lv_at hl 0 rfl) ?_
          refine lv_i2l hx hb dL_law__2102 rfl ?_
          refine W.lcmp hx hb dL_law__2103 ?_
          refine lv_if_eq (tgt := 2109) hx hb dL_law__2104 rfl (fun hc => ?_) (fun hc => ?_)
          · have hf := x_ip hc hf
            refine lv_goto (tgt := 2934) hx hb dL_law__2109 rfl ?_
            cases hf
            exact kx ls _ _ (lv_sub hl [1, 2, 3, 4, 5] rfl) hR hS
          · have hf := x_in hc hf
            refine lv_iconst (v := 0) hx hb dL_law__2107 rfl ?_
            cases hf
      · have hf := x_in hc hf
        refine lv_iconst (v := 0) hx hb dL_law__2090 rfl ?_
        cases hf
    refine lv_if_eq (tgt := 2075) hx hb dL_law__2068 rfl (fun hc => ?_) (fun hc => ?_)
    · try simp only [if_pos hc] at kM3
      refine lv_iconst (v := 0) hx hb dL_law__2075 rfl ?_
      exact kM3 ls _ _ (lv_sub hl [1, 2, 3, 4, 5, 0] rfl) hR hS
    · try simp only [if_neg hc] at kM3
      refine lv_iconst (v := 1) hx hb dL_law__2071 rfl ?_
      refine lv_goto (tgt := 2076) hx hb dL_law__2072 rfl ?_
      exact kM3 ls _ _ (lv_sub hl [1, 2, 3, 4, 5, 0] rfl) hR hS
  refine lv_if_eq (tgt := 2030) hx hb dL_law__2023 rfl (fun hc => ?_) (fun hc => ?_)
  · try simp only [if_pos hc] at kM1
    refine lv_iconst (v := 0) hx hb dL_law__2030 rfl ?_
    exact kM1 ls _ _ (lv_sub hl [0, 1, 2, 3, 4] rfl) hR hS
  · try simp only [if_neg hc] at kM1
    refine lv_iconst (v := 1) hx hb dL_law__2026 rfl ?_
    refine lv_goto (tgt := 2031) hx hb dL_law__2027 rfl ?_
    exact kM1 ls _ _ (lv_sub hl [0, 1, 2, 3, 4] rfl) hR hS
def f_row28 (K : XK) (x : Nat) (h : XH) (a1 : Int32) (a2 : Int32) (a3 : Int32) (a4 : Int32) : Option (XH) := Option.bind (f_L_houses K x h a1 a2 a3 a4) (fun q1 => Option.bind (f_X12_houses x q1.2 a1 a2 a3 a4) (fun q2 => if (f_X12_thrown x q2.2) = q1.1 then if q1.1 = 0 then if x_b 0 1 = true then if (lg_cmp (q2.2.2.1 (x + 76) (0 : Int32).toNatClampNeg) q2.1.toInt64) = 0 then some q2.2 else none else none else some q2.2 else none))
set_option maxRecDepth 20000 in
theorem B_row28 {p : Program} {l : Launch} {e : Env} {s : State} {m : MethodId} {args : Array Value} {below : List Frame} {meth : Method} {c : Code} {O : XO} {K : XK} {h h' : XH} {b L i cells slots : Nat} {xs : Nat → Int32} {Q : State → Prop} {a1 : Int32} {a2 : Int32} {a3 : Int32} {a4 : Int32} (C : x_C p s m args meth c O cL_law_ 8 RL (some .boolean)) (hst : l.stackTraces = false) (hX : va_X b L xs s s.heap) (hbl : b < s.heap.size) (hbA : ¬ oA O b) (hL : L ≤ 3072) (hi : i + 6 ≤ L) (ha1 : xs (i + 1) = a1) (ha2 : xs (i + 2) = a2) (ha3 : xs (i + 3) = a3) (ha4 : xs (i + 4) = a4) (hcl : cells + 40 ≤ room_1.cells) (hsl : slots + 900 ≤ room_1.slots) (ls : Array Slot) (H : Heap) (locs : List Loc) (hl : lv_has ls 8 [(0, .ref b), (1, .ref (oX O)), (2, .ref (oX O + 64)), (3, .ref (oX O + 76)), (4, .int (nI i))]) (hR : x_R O K h H) (hS : va_S (oA O) s.heap H locs) (hf : f_row28 K (oX O) h a1 a2 a3 a4 = some h') (kx : ∀ (ls : Array Slot) (H : Heap) (locs : List Loc), lv_has ls 8 [(0, .ref b), (1, .ref (oX O)), (2, .ref (oX O + 64)), (3, .ref (oX O + 76)), (4, .int (nI i))] → x_R O K h' H → va_S (oA O) s.heap H locs → W p l e room_1 s m args below meth c H locs (cells + 3) (slots + 18) Q (F0 m 2934 ls [])) : W p l e room_1 s m args below meth c H locs cells slots Q (F0 m 2112 ls []) := by
  have hx := C.1
  have hb := C.2.1
  rw [f_row28] at hf
  refine lv_aload_n hx hb dL_law__2112 rfl (lv_at hl 1 rfl) ?_
  refine lv_aload_n hx hb dL_law__2113 rfl (lv_at hl 0 rfl) ?_
  refine lv_iload hx hb dL_law__2114 (lv_at hl 4 rfl) ?_
  refine lv_iconst (v := 1) hx hb dL_law__2116 rfl ?_
  refine lv_iadd hx hb dL_law__2117 ?_
  refine x_sld C hX hbl hbA hS (i := i) (k := 1) rfl (by omega) hL ha1 dL_law__2118 ?_
  refine lv_aload_n hx hb dL_law__2119 rfl (lv_at hl 0 rfl) ?_
  refine lv_iload hx hb dL_law__2120 (lv_at hl 4 rfl) ?_
  refine lv_iconst (v := 2) hx hb dL_law__2122 rfl ?_
  refine lv_iadd hx hb dL_law__2123 ?_
  refine x_sld C hX hbl hbA hS (i := i) (k := 2) rfl (by omega) hL ha2 dL_law__2124 ?_
  refine lv_aload_n hx hb dL_law__2125 rfl (lv_at hl 0 rfl) ?_
  refine lv_iload hx hb dL_law__2126 (lv_at hl 4 rfl) ?_
  refine lv_iconst (v := 3) hx hb dL_law__2128 rfl ?_
  refine lv_iadd hx hb dL_law__2129 ?_
  refine x_sld C hX hbl hbA hS (i := i) (k := 3) rfl (by omega) hL ha3 dL_law__2130 ?_
  refine lv_aload_n hx hb dL_law__2131 rfl (lv_at hl 0 rfl) ?_
  refine lv_iload hx hb dL_law__2132 (lv_at hl 4 rfl) ?_
  refine lv_iconst (v := 4) hx hb dL_law__2134 rfl ?_
  refine lv_iadd hx hb dL_law__2135 ?_
  refine x_sld C hX hbl hbA hS (i := i) (k := 4) rfl (by omega) hL ha4 dL_law__2136 ?_
  refine lv_aload_n hx hb dL_law__2137 rfl (lv_at hl 3 rfl) ?_
  obtain ⟨⟨r1, h1⟩, eq1, hf⟩ := x_bd hf
  refine x_callL C hR hS rfl (S_L_houses hst eq1) lw_L_houses tw_1381 (Nat.le_of_ble_eq_true rfl) (Nat.le_of_ble_eq_true rfl) (As := [.ref (oX O), .int a1, .int a2, .int a3, .int a4, .ref (oX O + 76)]) rfl hl.1 (Nat.le_of_ble_eq_true rfl) dL_law__2138 ⟨by show cells + 3 ≤ room_1.cells; omega, by show slots + 18 ≤ room_1.slots; omega⟩ rfl (fun H locs hR hS => ?_)
  refine lv_istore (lv' := [(5, _), (0, _), (1, _), (2, _), (3, _), (4, _)]) hx hb dL_law__2141 hl (Nat.le_of_ble_eq_true rfl) rfl (fun ls hl => ?_)
  refine lv_aload_n hx hb dL_law__2143 rfl (lv_at hl 3 rfl) ?_
  refine lv_aload_n hx hb dL_law__2144 rfl (lv_at hl 1 rfl) ?_
  refine lv_iload hx hb dL_law__2145 (lv_at hl 5 rfl) ?_
  refine lv_iconst (v := 1) hx hb dL_law__2147 rfl ?_
  refine lv_iadd hx hb dL_law__2148 ?_
  refine x_sld C hX hbl hbA hS (i := i) (k := 1) rfl (by omega) hL ha1 dL_law__2149 ?_
  refine lv_aload_n hx hb dL_law__2150 rfl (lv_at hl 1 rfl) ?_
  refine lv_iload hx hb dL_law__2151 (lv_at hl 5 rfl) ?_
  refine lv_iconst (v := 2) hx hb dL_law__2153 rfl ?_
  refine lv_iadd hx hb dL_law__2154 ?_
  refine x_sld C hX hbl hbA hS (i := i) (k := 2) rfl (by omega) hL ha2 dL_law__2155 ?_
  refine lv_aload_n hx hb dL_law__2156 rfl (lv_at hl 1 rfl) ?_
  refine lv_iload hx hb dL_law__2157 (lv_at hl 5 rfl) ?_
  refine lv_iconst (v := 3) hx hb dL_law__2159 rfl ?_
  refine lv_iadd hx hb dL_law__2160 ?_
  refine x_sld C hX hbl hbA hS (i := i) (k := 3) rfl (by omega) hL ha3 dL_law__2161 ?_
  refine lv_aload_n hx hb dL_law__2162 rfl (lv_at hl 1 rfl) ?_
  refine lv_iload hx hb dL_law__2163 (lv_at hl 5 rfl) ?_
  refine lv_iconst (v := 4) hx hb dL_law__2165 rfl ?_
  refine lv_iadd hx hb dL_law__2166 ?_
  refine x_sld C hX hbl hbA hS (i := i) (k := 4) rfl (by omega) hL ha4 dL_law__2167 ?_
  obtain ⟨q2, eq2, hf⟩ := x_bd hf
  refine x_cVi4 C hR hS (S_X12_houses  eq2) (x_k hR 64 rfl) (by decide) rfl mf_X12_houses tw_2037 (Nat.le_of_ble_eq_true rfl) (Nat.le_of_ble_eq_true rfl) hl.1 (Nat.le_of_ble_eq_true rfl) dL_law__2168 ⟨by show cells + 3 ≤ room_1.cells; omega, by show slots + 18 ≤ room_1.slots; omega⟩ (fun H locs hR hS => ?_)
  refine lv_istore (lv' := [(6, _), (5, _), (0, _), (1, _), (2, _), (3, _), (4, _)]) hx hb dL_law__2171 hl (Nat.le_of_ble_eq_true rfl) rfl (fun ls hl => ?_)
  refine lv_aload_n hx hb dL_law__2173 rfl (lv_at hl 4 rfl) ?_
  refine x_cVi0 C hR hS (S_X12_thrown  rfl) (x_k hR 64 rfl) (by decide) rfl mf_X12_thrown tw_1533 (Nat.le_of_ble_eq_true rfl) (Nat.le_of_ble_eq_true rfl) hl.1 (Nat.le_of_ble_eq_true rfl) dL_law__2174 ⟨by show cells + 3 ≤ room_1.cells; omega, by show slots + 18 ≤ room_1.slots; omega⟩ (fun H locs hR hS => ?_)
  refine lv_iload hx hb dL_law__2177 (lv_at hl 1 rfl) ?_
  refine lv_icmp_eq (tgt := 2184) hx hb dL_law__2179 rfl (fun hc => ?_) (fun hc => ?_)
  · have hf := x_ip hc hf
    refine lv_iload hx hb dL_law__2184 (lv_at hl 1 rfl) ?_
    refine lv_if_ne (tgt := 2201) hx hb dL_law__2186 rfl (fun hc => ?_) (fun hc => ?_)
    · have hf := x_in hc hf
      refine lv_goto (tgt := 2934) hx hb dL_law__2201 rfl ?_
      cases hf
      exact kx ls _ _ (lv_sub hl [2, 3, 4, 5, 6] rfl) hR hS
    · have hf := x_ip hc hf
      refine lv_aload_n hx hb dL_law__2189 rfl (lv_at hl 5 rfl) ?_
      refine lv_iconst (v := 0) hx hb dL_law__2190 rfl ?_
      obtain ⟨g3, hf⟩ := x_gd hf
      refine x_lald C hR (x_k1 (x_k hR 76 rfl)) (x_k2 (x_k hR 76 rfl) g3) dL_law__2191 ?_
      refine lv_iload hx hb dL_law__2192 (lv_at hl 0 rfl) ?_
      refine lv_i2l hx hb dL_law__2194 rfl ?_
      refine W.lcmp hx hb dL_law__2195 ?_
      refine lv_if_eq (tgt := 2201) hx hb dL_law__2196 rfl (fun hc => ?_) (fun hc => ?_)
      · have hf := x_ip hc hf
        refine lv_goto (tgt := 2934) hx hb dL_law__2201 rfl ?_
        cases hf
        exact kx ls _ _ (lv_sub hl [2, 3, 4, 5, 6] rfl) hR hS
      · have hf := x_in hc hf
        refine lv_iconst (v := 0) hx hb dL_law__2199 rfl ?_
        cases hf
  · have hf := x_in hc hf
    refine lv_iconst (v := 0) hx hb dL_law__2182 rfl ?_
    cases hf
def f_row29 (x : Nat) (h : XH) (a1 : Int32) (a2 : Int32) : Option (XH) := Option.bind (f_X11_unlike x h a1 (if a2 = 0 then 0 else 1)) (fun v_2 => Option.bind (f_X12_unlike x h a1 (if a2 = 0 then 0 else 1)) (fun q4 => if v_2 = q4.1 then some q4.2 else none))
set_option maxRecDepth 20000 in
theorem B_row29 {p : Program} {l : Launch} {e : Env} {s : State} {m : MethodId} {args : Array Value} {below : List Frame} {meth : Method} {c : Code} {O : XO} {K : XK} {h h' : XH} {b L i cells slots : Nat} {xs : Nat → Int32} {Q : State → Prop} {a1 : Int32} {a2 : Int32} (C : x_C p s m args meth c O cL_law_ 8 RL (some .boolean)) (hst : l.stackTraces = false) (hX : va_X b L xs s s.heap) (hbl : b < s.heap.size) (hbA : ¬ oA O b) (hL : L ≤ 3072) (hi : i + 6 ≤ L) (ha1 : xs (i + 1) = a1) (ha2 : xs (i + 2) = a2) (hcl : cells + 40 ≤ room_1.cells) (hsl : slots + 900 ≤ room_1.slots) (ls : Array Slot) (H : Heap) (locs : List Loc) (hl : lv_has ls 8 [(0, .ref b), (1, .ref (oX O)), (2, .ref (oX O + 64)), (3, .ref (oX O + 76)), (4, .int (nI i))]) (hR : x_R O K h H) (hS : va_S (oA O) s.heap H locs) (hf : f_row29 (oX O) h a1 a2 = some h') (kx : ∀ (ls : Array Slot) (H : Heap) (locs : List Loc), lv_has ls 8 [(0, .ref b), (1, .ref (oX O)), (2, .ref (oX O + 64)), (3, .ref (oX O + 76)), (4, .int (nI i))] → x_R O K h' H → va_S (oA O) s.heap H locs → W p l e room_1 s m args below meth c H locs (cells) (slots) Q (F0 m 2934 ls [])) : W p l e room_1 s m args below meth c H locs cells slots Q (F0 m 2204 ls []) := by
  have hx := C.1
  have hb := C.2.1
  rw [f_row29] at hf
  refine lv_aload_n hx hb dL_law__2204 rfl (lv_at hl 1 rfl) ?_
  refine lv_aload_n hx hb dL_law__2205 rfl (lv_at hl 0 rfl) ?_
  refine lv_iload hx hb dL_law__2206 (lv_at hl 4 rfl) ?_
  refine lv_iconst (v := 1) hx hb dL_law__2208 rfl ?_
  refine lv_iadd hx hb dL_law__2209 ?_
  refine x_sld C hX hbl hbA hS (i := i) (k := 1) rfl (by omega) hL ha1 dL_law__2210 ?_
  refine lv_aload_n hx hb dL_law__2211 rfl (lv_at hl 0 rfl) ?_
  refine lv_iload hx hb dL_law__2212 (lv_at hl 4 rfl) ?_
  refine lv_iconst (v := 2) hx hb dL_law__2214 rfl ?_
  refine lv_iadd hx hb dL_law__2215 ?_
  refine x_sld C hX hbl hbA hS (i := i) (k := 2) rfl (by omega) hL ha2 dL_law__2216 ?_
  have kM1 : ∀ (ls : Array Slot) (H : Heap) (locs : List Loc), lv_has ls 8 [(0, .ref b), (1, .ref (oX O)), (2, .ref (oX O + 64)), (3, .ref (oX O + 76)), (4, .int (nI i))] → x_R O K h H → va_S (oA O) s.heap H locs → W p l e room_1 s m args below meth c H locs (cells) (slots) Q (F0 m 2225 ls [.int (if a2 = 0 then 0 else 1), .int a1, .ref (oX O)]) := by
    intro ls H locs hl hR hS
    obtain ⟨v_2, ev_2, hf⟩ := x_bd hf
    refine x_cVi2 C hR hS (S_X11_unlike  ev_2) (x_k hR 0 rfl) (by decide) rfl mf_X11_unlike tw_547 (Nat.le_of_ble_eq_true rfl) (Nat.le_of_ble_eq_true rfl) hl.1 (Nat.le_of_ble_eq_true rfl) dL_law__2225 ⟨by show cells ≤ room_1.cells; omega, by show slots ≤ room_1.slots; omega⟩ (fun H locs hR hS => ?_)
    refine lv_aload_n hx hb dL_law__2228 rfl (lv_at hl 2 rfl) ?_
    refine lv_aload_n hx hb dL_law__2229 rfl (lv_at hl 0 rfl) ?_
    refine lv_iload hx hb dL_law__2230 (lv_at hl 4 rfl) ?_
    refine lv_iconst (v := 1) hx hb dL_law__2232 rfl ?_
    refine lv_iadd hx hb dL_law__2233 ?_
    refine x_sld C hX hbl hbA hS (i := i) (k := 1) rfl (by omega) hL ha1 dL_law__2234 ?_
    refine lv_aload_n hx hb dL_law__2235 rfl (lv_at hl 0 rfl) ?_
    refine lv_iload hx hb dL_law__2236 (lv_at hl 4 rfl) ?_
    refine lv_iconst (v := 2) hx hb dL_law__2238 rfl ?_
    refine lv_iadd hx hb dL_law__2239 ?_
    refine x_sld C hX hbl hbA hS (i := i) (k := 2) rfl (by omega) hL ha2 dL_law__2240 ?_
    have kM3 : ∀ (ls : Array Slot) (H : Heap) (locs : List Loc), lv_has ls 8 [(0, .ref b), (1, .ref (oX O)), (2, .ref (oX O + 64)), (3, .ref (oX O + 76)), (4, .int (nI i))] → x_R O K h H → va_S (oA O) s.heap H locs → W p l e room_1 s m args below meth c H locs (cells) (slots) Q (F0 m 2249 ls [.int (if a2 = 0 then 0 else 1), .int a1, .ref (oX O + 64), .int v_2]) := by
      intro ls H locs hl hR hS
      obtain ⟨q4, eq4, hf⟩ := x_bd hf
      refine x_cVi2 C hR hS (S_X12_unlike  eq4) (x_k hR 64 rfl) (by decide) rfl mf_X12_unlike tw_2041 (Nat.le_of_ble_eq_true rfl) (Nat.le_of_ble_eq_true rfl) hl.1 (Nat.le_of_ble_eq_true rfl) dL_law__2249 ⟨by show cells ≤ room_1.cells; omega, by show slots ≤ room_1.slots; omega⟩ (fun H locs hR hS => ?_)
      refine lv_icmp_eq (tgt := 2934) hx hb dL_law__2252 rfl (fun hc => ?_) (fun hc => ?_)
      · have hf := x_ip hc hf
        cases hf
        exact kx ls _ _ (lv_sub hl [0, 1, 2, 3, 4] rfl) hR hS
      · have hf := x_in hc hf
        refine lv_iconst (v := 0) hx hb dL_law__2255 rfl ?_
        cases hf
    refine lv_if_eq (tgt := 2248) hx hb dL_law__2241 rfl (fun hc => ?_) (fun hc => ?_)
    · try simp only [if_pos hc] at kM3
      refine lv_iconst (v := 0) hx hb dL_law__2248 rfl ?_
      exact kM3 ls _ _ (lv_sub hl [0, 1, 2, 3, 4] rfl) hR hS
    · try simp only [if_neg hc] at kM3
      refine lv_iconst (v := 1) hx hb dL_law__2244 rfl ?_
      refine lv_goto (tgt := 2249) hx hb dL_law__2245 rfl ?_
      exact kM3 ls _ _ (lv_sub hl [0, 1, 2, 3, 4] rfl) hR hS
  refine lv_if_eq (tgt := 2224) hx hb dL_law__2217 rfl (fun hc => ?_) (fun hc => ?_)
  · try simp only [if_pos hc] at kM1
    refine lv_iconst (v := 0) hx hb dL_law__2224 rfl ?_
    exact kM1 ls _ _ (lv_sub hl [0, 1, 2, 3, 4] rfl) hR hS
  · try simp only [if_neg hc] at kM1
    refine lv_iconst (v := 1) hx hb dL_law__2220 rfl ?_
    refine lv_goto (tgt := 2225) hx hb dL_law__2221 rfl ?_
    exact kM1 ls _ _ (lv_sub hl [0, 1, 2, 3, 4] rfl) hR hS
def f_row30 (K : XK) (x : Nat) (h : XH) (a1 : Int32) (a2 : Int32) (a3 : Int32) (a4 : Int32) (a5 : Int32) : Option (XH) := Option.bind (f_L_per K x h a1 a2 a3 a4 (if a5 = 0 then 0 else 1)) (fun q2 => Option.bind (f_X12_per x q2.2 a1 a2 a3 a4 (if a5 = 0 then 0 else 1)) (fun q4 => if (f_X12_thrown x q4.2) = q2.1 then if q2.1 = 0 then if x_b 0 1 = true then if (lg_cmp (q4.2.2.1 (x + 76) (0 : Int32).toNatClampNeg) q4.1.toInt64) = 0 then some q4.2 else none else none else some q4.2 else none))
set_option maxRecDepth 20000 in
theorem B_row30 {p : Program} {l : Launch} {e : Env} {s : State} {m : MethodId} {args : Array Value} {below : List Frame} {meth : Method} {c : Code} {O : XO} {K : XK} {h h' : XH} {b L i cells slots : Nat} {xs : Nat → Int32} {Q : State → Prop} {a1 : Int32} {a2 : Int32} {a3 : Int32} {a4 : Int32} {a5 : Int32} (C : x_C p s m args meth c O cL_law_ 8 RL (some .boolean)) (hst : l.stackTraces = false) (hX : va_X b L xs s s.heap) (hbl : b < s.heap.size) (hbA : ¬ oA O b) (hL : L ≤ 3072) (hi : i + 6 ≤ L) (ha1 : xs (i + 1) = a1) (ha2 : xs (i + 2) = a2) (ha3 : xs (i + 3) = a3) (ha4 : xs (i + 4) = a4) (ha5 : xs (i + 5) = a5) (hcl : cells + 40 ≤ room_1.cells) (hsl : slots + 900 ≤ room_1.slots) (ls : Array Slot) (H : Heap) (locs : List Loc) (hl : lv_has ls 8 [(0, .ref b), (1, .ref (oX O)), (2, .ref (oX O + 64)), (3, .ref (oX O + 76)), (4, .int (nI i))]) (hR : x_R O K h H) (hS : va_S (oA O) s.heap H locs) (hf : f_row30 K (oX O) h a1 a2 a3 a4 a5 = some h') (kx : ∀ (ls : Array Slot) (H : Heap) (locs : List Loc), lv_has ls 8 [(0, .ref b), (1, .ref (oX O)), (2, .ref (oX O + 64)), (3, .ref (oX O + 76)), (4, .int (nI i))] → x_R O K h' H → va_S (oA O) s.heap H locs → W p l e room_1 s m args below meth c H locs (cells + 4) (slots + 24) Q (F0 m 2934 ls [])) : W p l e room_1 s m args below meth c H locs cells slots Q (F0 m 2257 ls []) := by
  have hx := C.1
  have hb := C.2.1
  rw [f_row30] at hf
  refine lv_aload_n hx hb dL_law__2257 rfl (lv_at hl 1 rfl) ?_
  refine lv_aload_n hx hb dL_law__2258 rfl (lv_at hl 0 rfl) ?_
  refine lv_iload hx hb dL_law__2259 (lv_at hl 4 rfl) ?_
  refine lv_iconst (v := 1) hx hb dL_law__2261 rfl ?_
  refine lv_iadd hx hb dL_law__2262 ?_
  refine x_sld C hX hbl hbA hS (i := i) (k := 1) rfl (by omega) hL ha1 dL_law__2263 ?_
  refine lv_aload_n hx hb dL_law__2264 rfl (lv_at hl 0 rfl) ?_
  refine lv_iload hx hb dL_law__2265 (lv_at hl 4 rfl) ?_
  refine lv_iconst (v := 2) hx hb dL_law__2267 rfl ?_
  refine lv_iadd hx hb dL_law__2268 ?_
  refine x_sld C hX hbl hbA hS (i := i) (k := 2) rfl (by omega) hL ha2 dL_law__2269 ?_
  refine lv_aload_n hx hb dL_law__2270 rfl (lv_at hl 0 rfl) ?_
  refine lv_iload hx hb dL_law__2271 (lv_at hl 4 rfl) ?_
  refine lv_iconst (v := 3) hx hb dL_law__2273 rfl ?_
  refine lv_iadd hx hb dL_law__2274 ?_
  refine x_sld C hX hbl hbA hS (i := i) (k := 3) rfl (by omega) hL ha3 dL_law__2275 ?_
  refine lv_aload_n hx hb dL_law__2276 rfl (lv_at hl 0 rfl) ?_
  refine lv_iload hx hb dL_law__2277 (lv_at hl 4 rfl) ?_
  refine lv_iconst (v := 4) hx hb dL_law__2279 rfl ?_
  refine lv_iadd hx hb dL_law__2280 ?_
  refine x_sld C hX hbl hbA hS (i := i) (k := 4) rfl (by omega) hL ha4 dL_law__2281 ?_
  refine lv_aload_n hx hb dL_law__2282 rfl (lv_at hl 0 rfl) ?_
  refine lv_iload hx hb dL_law__2283 (lv_at hl 4 rfl) ?_
  refine lv_iconst (v := 5) hx hb dL_law__2285 rfl ?_
  refine lv_iadd hx hb dL_law__2286 ?_
  refine x_sld C hX hbl hbA hS (i := i) (k := 5) rfl (by omega) hL ha5 dL_law__2287 ?_
  have kM1 : ∀ (ls : Array Slot) (H : Heap) (locs : List Loc), lv_has ls 8 [(0, .ref b), (1, .ref (oX O)), (2, .ref (oX O + 64)), (3, .ref (oX O + 76)), (4, .int (nI i))] → x_R O K h H → va_S (oA O) s.heap H locs → W p l e room_1 s m args below meth c H locs (cells) (slots) Q (F0 m 2296 ls [.int (if a5 = 0 then 0 else 1), .int a4, .int a3, .int a2, .int a1, .ref (oX O)]) := by
    intro ls H locs hl hR hS
    refine lv_aload_n hx hb dL_law__2296 rfl (lv_at hl 3 rfl) ?_
    obtain ⟨⟨r2, h2⟩, eq2, hf⟩ := x_bd hf
    refine x_callL C hR hS rfl (S_L_per hst eq2) lw_L_per tw_1393 (Nat.le_of_ble_eq_true rfl) (Nat.le_of_ble_eq_true rfl) (As := [.ref (oX O), .int a1, .int a2, .int a3, .int a4, .int (if a5 = 0 then 0 else 1), .ref (oX O + 76)]) rfl hl.1 (Nat.le_of_ble_eq_true rfl) dL_law__2297 ⟨by show cells + 4 ≤ room_1.cells; omega, by show slots + 24 ≤ room_1.slots; omega⟩ rfl (fun H locs hR hS => ?_)
    refine lv_istore (lv' := [(5, _), (0, _), (1, _), (2, _), (3, _), (4, _)]) hx hb dL_law__2300 hl (Nat.le_of_ble_eq_true rfl) rfl (fun ls hl => ?_)
    refine lv_aload_n hx hb dL_law__2302 rfl (lv_at hl 3 rfl) ?_
    refine lv_aload_n hx hb dL_law__2303 rfl (lv_at hl 1 rfl) ?_
    refine lv_iload hx hb dL_law__2304 (lv_at hl 5 rfl) ?_
    refine lv_iconst (v := 1) hx hb dL_law__2306 rfl ?_
    refine lv_iadd hx hb dL_law__2307 ?_
    refine x_sld C hX hbl hbA hS (i := i) (k := 1) rfl (by omega) hL ha1 dL_law__2308 ?_
    refine lv_aload_n hx hb dL_law__2309 rfl (lv_at hl 1 rfl) ?_
    refine lv_iload hx hb dL_law__2310 (lv_at hl 5 rfl) ?_
    refine lv_iconst (v := 2) hx hb dL_law__2312 rfl ?_
    refine lv_iadd hx hb dL_law__2313 ?_
    refine x_sld C hX hbl hbA hS (i := i) (k := 2) rfl (by omega) hL ha2 dL_law__2314 ?_
    refine lv_aload_n hx hb dL_law__2315 rfl (lv_at hl 1 rfl) ?_
    refine lv_iload hx hb dL_law__2316 (lv_at hl 5 rfl) ?_
    refine lv_iconst (v := 3) hx hb dL_law__2318 rfl ?_
    refine lv_iadd hx hb dL_law__2319 ?_
    refine x_sld C hX hbl hbA hS (i := i) (k := 3) rfl (by omega) hL ha3 dL_law__2320 ?_
    refine lv_aload_n hx hb dL_law__2321 rfl (lv_at hl 1 rfl) ?_
    refine lv_iload hx hb dL_law__2322 (lv_at hl 5 rfl) ?_
    refine lv_iconst (v := 4) hx hb dL_law__2324 rfl ?_
    refine lv_iadd hx hb dL_law__2325 ?_
    refine x_sld C hX hbl hbA hS (i := i) (k := 4) rfl (by omega) hL ha4 dL_law__2326 ?_
    refine lv_aload_n hx hb dL_law__2327 rfl (lv_at hl 1 rfl) ?_
    refine lv_iload hx hb dL_law__2328 (lv_at hl 5 rfl) ?_
    refine lv_iconst (v := 5) hx hb dL_law__2330 rfl ?_
    refine lv_iadd hx hb dL_law__2331 ?_
    refine x_sld C hX hbl hbA hS (i := i) (k := 5) rfl (by omega) hL ha5 dL_law__2332 ?_
    have kM3 : ∀ (ls : Array Slot) (H : Heap) (locs : List Loc), lv_has ls 8 [(0, .ref b), (1, .ref (oX O)), (2, .ref (oX O + 64)), (3, .ref (oX O + 76)), (4, .int (nI i)), (5, .int r2)] → x_R O K h2 H → va_S (oA O) s.heap H locs → W p l e room_1 s m args below meth c H locs (cells + 4) (slots + 24) Q (F0 m 2341 ls [.int (if a5 = 0 then 0 else 1), .int a4, .int a3, .int a2, .int a1, .ref (oX O + 64)]) := by
      intro ls H locs hl hR hS
      obtain ⟨q4, eq4, hf⟩ := x_bd hf
      refine x_cVi5 C hR hS (S_X12_per  eq4) (x_k hR 64 rfl) (by decide) rfl mf_X12_per tw_2045 (Nat.le_of_ble_eq_true rfl) (Nat.le_of_ble_eq_true rfl) hl.1 (Nat.le_of_ble_eq_true rfl) dL_law__2341 ⟨by show cells + 4 ≤ room_1.cells; omega, by show slots + 24 ≤ room_1.slots; omega⟩ (fun H locs hR hS => ?_)
      refine lv_istore (lv' := [(6, _), (0, _), (1, _), (2, _), (3, _), (4, _), (5, _)]) hx hb dL_law__2344 hl (Nat.le_of_ble_eq_true rfl) rfl (fun ls hl => ?_)
      refine lv_aload_n hx hb dL_law__2346 rfl (lv_at hl 3 rfl) ?_
      refine x_cVi0 C hR hS (S_X12_thrown  rfl) (x_k hR 64 rfl) (by decide) rfl mf_X12_thrown tw_1533 (Nat.le_of_ble_eq_true rfl) (Nat.le_of_ble_eq_true rfl) hl.1 (Nat.le_of_ble_eq_true rfl) dL_law__2347 ⟨by show cells + 4 ≤ room_1.cells; omega, by show slots + 24 ≤ room_1.slots; omega⟩ (fun H locs hR hS => ?_)
      refine lv_iload hx hb dL_law__2350 (lv_at hl 6 rfl) ?_
      refine lv_icmp_eq (tgt := 2357) hx hb dL_law__2352 rfl (fun hc => ?_) (fun hc => ?_)
      · have hf := x_ip hc hf
        refine lv_iload hx hb dL_law__2357 (lv_at hl 6 rfl) ?_
        refine lv_if_ne (tgt := 2374) hx hb dL_law__2359 rfl (fun hc => ?_) (fun hc => ?_)
        · have hf := x_in hc hf
          refine lv_goto (tgt := 2934) hx hb dL_law__2374 rfl ?_
          cases hf
          exact kx ls _ _ (lv_sub hl [1, 2, 3, 4, 5] rfl) hR hS
        · have hf := x_ip hc hf
          refine lv_aload_n hx hb dL_law__2362 rfl (lv_at hl 4 rfl) ?_
          refine lv_iconst (v := 0) hx hb dL_law__2363 rfl ?_
          obtain ⟨g5, hf⟩ := x_gd hf
          refine x_lald C hR (x_k1 (x_k hR 76 rfl)) (x_k2 (x_k hR 76 rfl) g5) dL_law__2364 ?_
          refine lv_iload hx hb dL_law__2365 (lv_at hl 0 rfl) ?_
          refine lv_i2l hx hb dL_law__2367 rfl ?_
          refine W.lcmp hx hb dL_law__2368 ?_
          refine lv_if_eq (tgt := 2374) hx hb dL_law__2369 rfl (fun hc => ?_) (fun hc => ?_)
          · have hf := x_ip hc hf
            refine lv_goto (tgt := 2934) hx hb dL_law__2374 rfl ?_
            cases hf
            exact kx ls _ _ (lv_sub hl [1, 2, 3, 4, 5] rfl) hR hS
          · have hf := x_in hc hf
            refine lv_iconst (v := 0) hx hb dL_law__2372 rfl ?_
            cases hf
      · have hf := x_in hc hf
        refine lv_iconst (v := 0) hx hb dL_law__2355 rfl ?_
        cases hf
    refine lv_if_eq (tgt := 2340) hx hb dL_law__2333 rfl (fun hc => ?_) (fun hc => ?_)
    · try simp only [if_pos hc] at kM3
      refine lv_iconst (v := 0) hx hb dL_law__2340 rfl ?_
      exact kM3 ls _ _ (lv_sub hl [1, 2, 3, 4, 5, 0] rfl) hR hS
    · try simp only [if_neg hc] at kM3
      refine lv_iconst (v := 1) hx hb dL_law__2336 rfl ?_
      refine lv_goto (tgt := 2341) hx hb dL_law__2337 rfl ?_
      exact kM3 ls _ _ (lv_sub hl [1, 2, 3, 4, 5, 0] rfl) hR hS
  refine lv_if_eq (tgt := 2295) hx hb dL_law__2288 rfl (fun hc => ?_) (fun hc => ?_)
  · try simp only [if_pos hc] at kM1
    refine lv_iconst (v := 0) hx hb dL_law__2295 rfl ?_
    exact kM1 ls _ _ (lv_sub hl [0, 1, 2, 3, 4] rfl) hR hS
  · try simp only [if_neg hc] at kM1
    refine lv_iconst (v := 1) hx hb dL_law__2291 rfl ?_
    refine lv_goto (tgt := 2296) hx hb dL_law__2292 rfl ?_
    exact kM1 ls _ _ (lv_sub hl [0, 1, 2, 3, 4] rfl) hR hS
def f_row31 (K : XK) (x : Nat) (h : XH) (a1 : Int32) (a2 : Int32) (a3 : Int32) (a4 : Int32) (a5 : Int32) : Option (XH) := Option.bind (f_L_plan K x h a1 a2 a3 a4 a5) (fun q1 => Option.bind (f_X12_plan x q1.2 a1 a2 a3 a4 a5) (fun q2 => if (f_X12_thrown x q2.2) = q1.1 then if q1.1 = 0 then if x_b 0 1 = true then if (lg_cmp (q2.2.2.1 (x + 76) (0 : Int32).toNatClampNeg) q2.1.toInt64) = 0 then some q2.2 else none else none else some q2.2 else none))
set_option maxRecDepth 20000 in
theorem B_row31 {p : Program} {l : Launch} {e : Env} {s : State} {m : MethodId} {args : Array Value} {below : List Frame} {meth : Method} {c : Code} {O : XO} {K : XK} {h h' : XH} {b L i cells slots : Nat} {xs : Nat → Int32} {Q : State → Prop} {a1 : Int32} {a2 : Int32} {a3 : Int32} {a4 : Int32} {a5 : Int32} (C : x_C p s m args meth c O cL_law_ 8 RL (some .boolean)) (hst : l.stackTraces = false) (hX : va_X b L xs s s.heap) (hbl : b < s.heap.size) (hbA : ¬ oA O b) (hL : L ≤ 3072) (hi : i + 6 ≤ L) (ha1 : xs (i + 1) = a1) (ha2 : xs (i + 2) = a2) (ha3 : xs (i + 3) = a3) (ha4 : xs (i + 4) = a4) (ha5 : xs (i + 5) = a5) (hcl : cells + 40 ≤ room_1.cells) (hsl : slots + 900 ≤ room_1.slots) (ls : Array Slot) (H : Heap) (locs : List Loc) (hl : lv_has ls 8 [(0, .ref b), (1, .ref (oX O)), (2, .ref (oX O + 64)), (3, .ref (oX O + 76)), (4, .int (nI i))]) (hR : x_R O K h H) (hS : va_S (oA O) s.heap H locs) (hf : f_row31 K (oX O) h a1 a2 a3 a4 a5 = some h') (kx : ∀ (ls : Array Slot) (H : Heap) (locs : List Loc), lv_has ls 8 [(0, .ref b), (1, .ref (oX O)), (2, .ref (oX O + 64)), (3, .ref (oX O + 76)), (4, .int (nI i))] → x_R O K h' H → va_S (oA O) s.heap H locs → W p l e room_1 s m args below meth c H locs (cells + 5) (slots + 30) Q (F0 m 2934 ls [])) : W p l e room_1 s m args below meth c H locs cells slots Q (F0 m 2377 ls []) := by
  have hx := C.1
  have hb := C.2.1
  rw [f_row31] at hf
  refine lv_aload_n hx hb dL_law__2377 rfl (lv_at hl 1 rfl) ?_
  refine lv_aload_n hx hb dL_law__2378 rfl (lv_at hl 0 rfl) ?_
  refine lv_iload hx hb dL_law__2379 (lv_at hl 4 rfl) ?_
  refine lv_iconst (v := 1) hx hb dL_law__2381 rfl ?_
  refine lv_iadd hx hb dL_law__2382 ?_
  refine x_sld C hX hbl hbA hS (i := i) (k := 1) rfl (by omega) hL ha1 dL_law__2383 ?_
  refine lv_aload_n hx hb dL_law__2384 rfl (lv_at hl 0 rfl) ?_
  refine lv_iload hx hb dL_law__2385 (lv_at hl 4 rfl) ?_
  refine lv_iconst (v := 2) hx hb dL_law__2387 rfl ?_
  refine lv_iadd hx hb dL_law__2388 ?_
  refine x_sld C hX hbl hbA hS (i := i) (k := 2) rfl (by omega) hL ha2 dL_law__2389 ?_
  refine lv_aload_n hx hb dL_law__2390 rfl (lv_at hl 0 rfl) ?_
  refine lv_iload hx hb dL_law__2391 (lv_at hl 4 rfl) ?_
  refine lv_iconst (v := 3) hx hb dL_law__2393 rfl ?_
  refine lv_iadd hx hb dL_law__2394 ?_
  refine x_sld C hX hbl hbA hS (i := i) (k := 3) rfl (by omega) hL ha3 dL_law__2395 ?_
  refine lv_aload_n hx hb dL_law__2396 rfl (lv_at hl 0 rfl) ?_
  refine lv_iload hx hb dL_law__2397 (lv_at hl 4 rfl) ?_
  refine lv_iconst (v := 4) hx hb dL_law__2399 rfl ?_
  refine lv_iadd hx hb dL_law__2400 ?_
  refine x_sld C hX hbl hbA hS (i := i) (k := 4) rfl (by omega) hL ha4 dL_law__2401 ?_
  refine lv_aload_n hx hb dL_law__2402 rfl (lv_at hl 0 rfl) ?_
  refine lv_iload hx hb dL_law__2403 (lv_at hl 4 rfl) ?_
  refine lv_iconst (v := 5) hx hb dL_law__2405 rfl ?_
  refine lv_iadd hx hb dL_law__2406 ?_
  refine x_sld C hX hbl hbA hS (i := i) (k := 5) rfl (by omega) hL ha5 dL_law__2407 ?_
  refine lv_aload_n hx hb dL_law__2408 rfl (lv_at hl 3 rfl) ?_
  obtain ⟨⟨r1, h1⟩, eq1, hf⟩ := x_bd hf
  refine x_callL C hR hS rfl (S_L_plan hst eq1) lw_L_plan tw_1407 (Nat.le_of_ble_eq_true rfl) (Nat.le_of_ble_eq_true rfl) (As := [.ref (oX O), .int a1, .int a2, .int a3, .int a4, .int a5, .ref (oX O + 76)]) rfl hl.1 (Nat.le_of_ble_eq_true rfl) dL_law__2409 ⟨by show cells + 5 ≤ room_1.cells; omega, by show slots + 30 ≤ room_1.slots; omega⟩ rfl (fun H locs hR hS => ?_)
  refine lv_istore (lv' := [(5, _), (0, _), (1, _), (2, _), (3, _), (4, _)]) hx hb dL_law__2412 hl (Nat.le_of_ble_eq_true rfl) rfl (fun ls hl => ?_)
  refine lv_aload_n hx hb dL_law__2414 rfl (lv_at hl 3 rfl) ?_
  refine lv_aload_n hx hb dL_law__2415 rfl (lv_at hl 1 rfl) ?_
  refine lv_iload hx hb dL_law__2416 (lv_at hl 5 rfl) ?_
  refine lv_iconst (v := 1) hx hb dL_law__2418 rfl ?_
  refine lv_iadd hx hb dL_law__2419 ?_
  refine x_sld C hX hbl hbA hS (i := i) (k := 1) rfl (by omega) hL ha1 dL_law__2420 ?_
  refine lv_aload_n hx hb dL_law__2421 rfl (lv_at hl 1 rfl) ?_
  refine lv_iload hx hb dL_law__2422 (lv_at hl 5 rfl) ?_
  refine lv_iconst (v := 2) hx hb dL_law__2424 rfl ?_
  refine lv_iadd hx hb dL_law__2425 ?_
  refine x_sld C hX hbl hbA hS (i := i) (k := 2) rfl (by omega) hL ha2 dL_law__2426 ?_
  refine lv_aload_n hx hb dL_law__2427 rfl (lv_at hl 1 rfl) ?_
  refine lv_iload hx hb dL_law__2428 (lv_at hl 5 rfl) ?_
  refine lv_iconst (v := 3) hx hb dL_law__2430 rfl ?_
  refine lv_iadd hx hb dL_law__2431 ?_
  refine x_sld C hX hbl hbA hS (i := i) (k := 3) rfl (by omega) hL ha3 dL_law__2432 ?_
  refine lv_aload_n hx hb dL_law__2433 rfl (lv_at hl 1 rfl) ?_
  refine lv_iload hx hb dL_law__2434 (lv_at hl 5 rfl) ?_
  refine lv_iconst (v := 4) hx hb dL_law__2436 rfl ?_
  refine lv_iadd hx hb dL_law__2437 ?_
  refine x_sld C hX hbl hbA hS (i := i) (k := 4) rfl (by omega) hL ha4 dL_law__2438 ?_
  refine lv_aload_n hx hb dL_law__2439 rfl (lv_at hl 1 rfl) ?_
  refine lv_iload hx hb dL_law__2440 (lv_at hl 5 rfl) ?_
  refine lv_iconst (v := 5) hx hb dL_law__2442 rfl ?_
  refine lv_iadd hx hb dL_law__2443 ?_
  refine x_sld C hX hbl hbA hS (i := i) (k := 5) rfl (by omega) hL ha5 dL_law__2444 ?_
  obtain ⟨q2, eq2, hf⟩ := x_bd hf
  refine x_cVi5 C hR hS (S_X12_plan  eq2) (x_k hR 64 rfl) (by decide) rfl mf_X12_plan tw_2053 (Nat.le_of_ble_eq_true rfl) (Nat.le_of_ble_eq_true rfl) hl.1 (Nat.le_of_ble_eq_true rfl) dL_law__2445 ⟨by show cells + 5 ≤ room_1.cells; omega, by show slots + 30 ≤ room_1.slots; omega⟩ (fun H locs hR hS => ?_)
  refine lv_istore (lv' := [(6, _), (5, _), (0, _), (1, _), (2, _), (3, _), (4, _)]) hx hb dL_law__2448 hl (Nat.le_of_ble_eq_true rfl) rfl (fun ls hl => ?_)
  refine lv_aload_n hx hb dL_law__2450 rfl (lv_at hl 4 rfl) ?_
  refine x_cVi0 C hR hS (S_X12_thrown  rfl) (x_k hR 64 rfl) (by decide) rfl mf_X12_thrown tw_1533 (Nat.le_of_ble_eq_true rfl) (Nat.le_of_ble_eq_true rfl) hl.1 (Nat.le_of_ble_eq_true rfl) dL_law__2451 ⟨by show cells + 5 ≤ room_1.cells; omega, by show slots + 30 ≤ room_1.slots; omega⟩ (fun H locs hR hS => ?_)
  refine lv_iload hx hb dL_law__2454 (lv_at hl 1 rfl) ?_
  refine lv_icmp_eq (tgt := 2461) hx hb dL_law__2456 rfl (fun hc => ?_) (fun hc => ?_)
  · have hf := x_ip hc hf
    refine lv_iload hx hb dL_law__2461 (lv_at hl 1 rfl) ?_
    refine lv_if_ne (tgt := 2478) hx hb dL_law__2463 rfl (fun hc => ?_) (fun hc => ?_)
    · have hf := x_in hc hf
      refine lv_goto (tgt := 2934) hx hb dL_law__2478 rfl ?_
      cases hf
      exact kx ls _ _ (lv_sub hl [2, 3, 4, 5, 6] rfl) hR hS
    · have hf := x_ip hc hf
      refine lv_aload_n hx hb dL_law__2466 rfl (lv_at hl 5 rfl) ?_
      refine lv_iconst (v := 0) hx hb dL_law__2467 rfl ?_
      obtain ⟨g3, hf⟩ := x_gd hf
      refine x_lald C hR (x_k1 (x_k hR 76 rfl)) (x_k2 (x_k hR 76 rfl) g3) dL_law__2468 ?_
      refine lv_iload hx hb dL_law__2469 (lv_at hl 0 rfl) ?_
      refine lv_i2l hx hb dL_law__2471 rfl ?_
      refine W.lcmp hx hb dL_law__2472 ?_
      refine lv_if_eq (tgt := 2478) hx hb dL_law__2473 rfl (fun hc => ?_) (fun hc => ?_)
      · have hf := x_ip hc hf
        refine lv_goto (tgt := 2934) hx hb dL_law__2478 rfl ?_
        cases hf
        exact kx ls _ _ (lv_sub hl [2, 3, 4, 5, 6] rfl) hR hS
      · have hf := x_in hc hf
        refine lv_iconst (v := 0) hx hb dL_law__2476 rfl ?_
        cases hf
  · have hf := x_in hc hf
    refine lv_iconst (v := 0) hx hb dL_law__2459 rfl ?_
    cases hf
def f_row32 (K : XK) (x : Nat) (h : XH) (a1 : Int32) (a2 : Int32) (a3 : Int32) : Option (XH) := Option.bind (f_L_last K x h a1 a2 a3) (fun q1 => Option.bind (f_X12_last x q1.2 a1 a2 a3) (fun q2 => if (f_X12_thrown x q2.2) = q1.1 then if q1.1 = 0 then if x_b 0 1 = true then if (lg_cmp (q2.2.2.1 (x + 76) (0 : Int32).toNatClampNeg) q2.1.toInt64) = 0 then some q2.2 else none else none else some q2.2 else none))
set_option maxRecDepth 20000 in
theorem B_row32 {p : Program} {l : Launch} {e : Env} {s : State} {m : MethodId} {args : Array Value} {below : List Frame} {meth : Method} {c : Code} {O : XO} {K : XK} {h h' : XH} {b L i cells slots : Nat} {xs : Nat → Int32} {Q : State → Prop} {a1 : Int32} {a2 : Int32} {a3 : Int32} (C : x_C p s m args meth c O cL_law_ 8 RL (some .boolean)) (hst : l.stackTraces = false) (hX : va_X b L xs s s.heap) (hbl : b < s.heap.size) (hbA : ¬ oA O b) (hL : L ≤ 3072) (hi : i + 6 ≤ L) (ha1 : xs (i + 1) = a1) (ha2 : xs (i + 2) = a2) (ha3 : xs (i + 3) = a3) (hcl : cells + 40 ≤ room_1.cells) (hsl : slots + 900 ≤ room_1.slots) (ls : Array Slot) (H : Heap) (locs : List Loc) (hl : lv_has ls 8 [(0, .ref b), (1, .ref (oX O)), (2, .ref (oX O + 64)), (3, .ref (oX O + 76)), (4, .int (nI i))]) (hR : x_R O K h H) (hS : va_S (oA O) s.heap H locs) (hf : f_row32 K (oX O) h a1 a2 a3 = some h') (kx : ∀ (ls : Array Slot) (H : Heap) (locs : List Loc), lv_has ls 8 [(0, .ref b), (1, .ref (oX O)), (2, .ref (oX O + 64)), (3, .ref (oX O + 76)), (4, .int (nI i))] → x_R O K h' H → va_S (oA O) s.heap H locs → W p l e room_1 s m args below meth c H locs (cells + 2) (slots + 12) Q (F0 m 2934 ls [])) : W p l e room_1 s m args below meth c H locs cells slots Q (F0 m 2481 ls []) := by
  have hx := C.1
  have hb := C.2.1
  rw [f_row32] at hf
  refine lv_aload_n hx hb dL_law__2481 rfl (lv_at hl 1 rfl) ?_
  refine lv_aload_n hx hb dL_law__2482 rfl (lv_at hl 0 rfl) ?_
  refine lv_iload hx hb dL_law__2483 (lv_at hl 4 rfl) ?_
  refine lv_iconst (v := 1) hx hb dL_law__2485 rfl ?_
  refine lv_iadd hx hb dL_law__2486 ?_
  refine x_sld C hX hbl hbA hS (i := i) (k := 1) rfl (by omega) hL ha1 dL_law__2487 ?_
  refine lv_aload_n hx hb dL_law__2488 rfl (lv_at hl 0 rfl) ?_
  refine lv_iload hx hb dL_law__2489 (lv_at hl 4 rfl) ?_
  refine lv_iconst (v := 2) hx hb dL_law__2491 rfl ?_
  refine lv_iadd hx hb dL_law__2492 ?_
  refine x_sld C hX hbl hbA hS (i := i) (k := 2) rfl (by omega) hL ha2 dL_law__2493 ?_
  refine lv_aload_n hx hb dL_law__2494 rfl (lv_at hl 0 rfl) ?_
  refine lv_iload hx hb dL_law__2495 (lv_at hl 4 rfl) ?_
  refine lv_iconst (v := 3) hx hb dL_law__2497 rfl ?_
  refine lv_iadd hx hb dL_law__2498 ?_
  refine x_sld C hX hbl hbA hS (i := i) (k := 3) rfl (by omega) hL ha3 dL_law__2499 ?_
  refine lv_aload_n hx hb dL_law__2500 rfl (lv_at hl 3 rfl) ?_
  obtain ⟨⟨r1, h1⟩, eq1, hf⟩ := x_bd hf
  refine x_callL C hR hS rfl (S_L_last hst eq1) lw_L_last tw_1446 (Nat.le_of_ble_eq_true rfl) (Nat.le_of_ble_eq_true rfl) (As := [.ref (oX O), .int a1, .int a2, .int a3, .ref (oX O + 76)]) rfl hl.1 (Nat.le_of_ble_eq_true rfl) dL_law__2501 ⟨by show cells + 2 ≤ room_1.cells; omega, by show slots + 12 ≤ room_1.slots; omega⟩ rfl (fun H locs hR hS => ?_)
  refine lv_istore (lv' := [(5, _), (0, _), (1, _), (2, _), (3, _), (4, _)]) hx hb dL_law__2504 hl (Nat.le_of_ble_eq_true rfl) rfl (fun ls hl => ?_)
  refine lv_aload_n hx hb dL_law__2506 rfl (lv_at hl 3 rfl) ?_
  refine lv_aload_n hx hb dL_law__2507 rfl (lv_at hl 1 rfl) ?_
  refine lv_iload hx hb dL_law__2508 (lv_at hl 5 rfl) ?_
  refine lv_iconst (v := 1) hx hb dL_law__2510 rfl ?_
  refine lv_iadd hx hb dL_law__2511 ?_
  refine x_sld C hX hbl hbA hS (i := i) (k := 1) rfl (by omega) hL ha1 dL_law__2512 ?_
  refine lv_aload_n hx hb dL_law__2513 rfl (lv_at hl 1 rfl) ?_
  refine lv_iload hx hb dL_law__2514 (lv_at hl 5 rfl) ?_
  refine lv_iconst (v := 2) hx hb dL_law__2516 rfl ?_
  refine lv_iadd hx hb dL_law__2517 ?_
  refine x_sld C hX hbl hbA hS (i := i) (k := 2) rfl (by omega) hL ha2 dL_law__2518 ?_
  refine lv_aload_n hx hb dL_law__2519 rfl (lv_at hl 1 rfl) ?_
  refine lv_iload hx hb dL_law__2520 (lv_at hl 5 rfl) ?_
  refine lv_iconst (v := 3) hx hb dL_law__2522 rfl ?_
  refine lv_iadd hx hb dL_law__2523 ?_
  refine x_sld C hX hbl hbA hS (i := i) (k := 3) rfl (by omega) hL ha3 dL_law__2524 ?_
  obtain ⟨q2, eq2, hf⟩ := x_bd hf
  refine x_cVi3 C hR hS (S_X12_last  eq2) (x_k hR 64 rfl) (by decide) rfl mf_X12_last tw_2057 (Nat.le_of_ble_eq_true rfl) (Nat.le_of_ble_eq_true rfl) hl.1 (Nat.le_of_ble_eq_true rfl) dL_law__2525 ⟨by show cells + 2 ≤ room_1.cells; omega, by show slots + 12 ≤ room_1.slots; omega⟩ (fun H locs hR hS => ?_)
  refine lv_istore (lv' := [(6, _), (5, _), (0, _), (1, _), (2, _), (3, _), (4, _)]) hx hb dL_law__2528 hl (Nat.le_of_ble_eq_true rfl) rfl (fun ls hl => ?_)
  refine lv_aload_n hx hb dL_law__2530 rfl (lv_at hl 4 rfl) ?_
  refine x_cVi0 C hR hS (S_X12_thrown  rfl) (x_k hR 64 rfl) (by decide) rfl mf_X12_thrown tw_1533 (Nat.le_of_ble_eq_true rfl) (Nat.le_of_ble_eq_true rfl) hl.1 (Nat.le_of_ble_eq_true rfl) dL_law__2531 ⟨by show cells + 2 ≤ room_1.cells; omega, by show slots + 12 ≤ room_1.slots; omega⟩ (fun H locs hR hS => ?_)
  refine lv_iload hx hb dL_law__2534 (lv_at hl 1 rfl) ?_
  refine lv_icmp_eq (tgt := 2541) hx hb dL_law__2536 rfl (fun hc => ?_) (fun hc => ?_)
  · have hf := x_ip hc hf
    refine lv_iload hx hb dL_law__2541 (lv_at hl 1 rfl) ?_
    refine lv_if_ne (tgt := 2558) hx hb dL_law__2543 rfl (fun hc => ?_) (fun hc => ?_)
    · have hf := x_in hc hf
      refine lv_goto (tgt := 2934) hx hb dL_law__2558 rfl ?_
      cases hf
      exact kx ls _ _ (lv_sub hl [2, 3, 4, 5, 6] rfl) hR hS
    · have hf := x_ip hc hf
      refine lv_aload_n hx hb dL_law__2546 rfl (lv_at hl 5 rfl) ?_
      refine lv_iconst (v := 0) hx hb dL_law__2547 rfl ?_
      obtain ⟨g3, hf⟩ := x_gd hf
      refine x_lald C hR (x_k1 (x_k hR 76 rfl)) (x_k2 (x_k hR 76 rfl) g3) dL_law__2548 ?_
      refine lv_iload hx hb dL_law__2549 (lv_at hl 0 rfl) ?_
      refine lv_i2l hx hb dL_law__2551 rfl ?_
      refine W.lcmp hx hb dL_law__2552 ?_
      refine lv_if_eq (tgt := 2558) hx hb dL_law__2553 rfl (fun hc => ?_) (fun hc => ?_)
      · have hf := x_ip hc hf
        refine lv_goto (tgt := 2934) hx hb dL_law__2558 rfl ?_
        cases hf
        exact kx ls _ _ (lv_sub hl [2, 3, 4, 5, 6] rfl) hR hS
      · have hf := x_in hc hf
        refine lv_iconst (v := 0) hx hb dL_law__2556 rfl ?_
        cases hf
  · have hf := x_in hc hf
    refine lv_iconst (v := 0) hx hb dL_law__2539 rfl ?_
    cases hf
def f_row33 (x : Nat) (h : XH) (a1 : Int32) (a2 : Int32) : Option (XH) := Option.bind (f_L_chance x h a1 a2) (fun q1 => Option.bind (f_X12_chance x q1.2 a1 a2) (fun h2 => if (f_X12_thrown x h2) = q1.1 then some h2 else none))
set_option maxRecDepth 20000 in
theorem B_row33 {p : Program} {l : Launch} {e : Env} {s : State} {m : MethodId} {args : Array Value} {below : List Frame} {meth : Method} {c : Code} {O : XO} {K : XK} {h h' : XH} {b L i cells slots : Nat} {xs : Nat → Int32} {Q : State → Prop} {a1 : Int32} {a2 : Int32} (C : x_C p s m args meth c O cL_law_ 8 RL (some .boolean)) (hst : l.stackTraces = false) (hX : va_X b L xs s s.heap) (hbl : b < s.heap.size) (hbA : ¬ oA O b) (hL : L ≤ 3072) (hi : i + 6 ≤ L) (ha1 : xs (i + 1) = a1) (ha2 : xs (i + 2) = a2) (hcl : cells + 40 ≤ room_1.cells) (hsl : slots + 900 ≤ room_1.slots) (ls : Array Slot) (H : Heap) (locs : List Loc) (hl : lv_has ls 8 [(0, .ref b), (1, .ref (oX O)), (2, .ref (oX O + 64)), (3, .ref (oX O + 76)), (4, .int (nI i))]) (hR : x_R O K h H) (hS : va_S (oA O) s.heap H locs) (hf : f_row33 (oX O) h a1 a2 = some h') (kx : ∀ (ls : Array Slot) (H : Heap) (locs : List Loc), lv_has ls 8 [(0, .ref b), (1, .ref (oX O)), (2, .ref (oX O + 64)), (3, .ref (oX O + 76)), (4, .int (nI i))] → x_R O K h' H → va_S (oA O) s.heap H locs → W p l e room_1 s m args below meth c H locs (cells + 1) (slots + 6) Q (F0 m 2934 ls [])) : W p l e room_1 s m args below meth c H locs cells slots Q (F0 m 2561 ls []) := by
  have hx := C.1
  have hb := C.2.1
  rw [f_row33] at hf
  refine lv_aload_n hx hb dL_law__2561 rfl (lv_at hl 1 rfl) ?_
  refine lv_aload_n hx hb dL_law__2562 rfl (lv_at hl 0 rfl) ?_
  refine lv_iload hx hb dL_law__2563 (lv_at hl 4 rfl) ?_
  refine lv_iconst (v := 1) hx hb dL_law__2565 rfl ?_
  refine lv_iadd hx hb dL_law__2566 ?_
  refine x_sld C hX hbl hbA hS (i := i) (k := 1) rfl (by omega) hL ha1 dL_law__2567 ?_
  refine lv_aload_n hx hb dL_law__2568 rfl (lv_at hl 0 rfl) ?_
  refine lv_iload hx hb dL_law__2569 (lv_at hl 4 rfl) ?_
  refine lv_iconst (v := 2) hx hb dL_law__2571 rfl ?_
  refine lv_iadd hx hb dL_law__2572 ?_
  refine x_sld C hX hbl hbA hS (i := i) (k := 2) rfl (by omega) hL ha2 dL_law__2573 ?_
  obtain ⟨⟨r1, h1⟩, eq1, hf⟩ := x_bd hf
  refine x_callL C hR hS rfl (S_L_chance hst eq1) lw_L_chance tw_1454 (Nat.le_of_ble_eq_true rfl) (Nat.le_of_ble_eq_true rfl) (As := [.ref (oX O), .int a1, .int a2]) rfl hl.1 (Nat.le_of_ble_eq_true rfl) dL_law__2574 ⟨by show cells + 1 ≤ room_1.cells; omega, by show slots + 6 ≤ room_1.slots; omega⟩ rfl (fun H locs hR hS => ?_)
  refine lv_istore (lv' := [(5, _), (0, _), (1, _), (2, _), (3, _), (4, _)]) hx hb dL_law__2577 hl (Nat.le_of_ble_eq_true rfl) rfl (fun ls hl => ?_)
  refine lv_aload_n hx hb dL_law__2579 rfl (lv_at hl 3 rfl) ?_
  refine lv_aload_n hx hb dL_law__2580 rfl (lv_at hl 1 rfl) ?_
  refine lv_iload hx hb dL_law__2581 (lv_at hl 5 rfl) ?_
  refine lv_iconst (v := 1) hx hb dL_law__2583 rfl ?_
  refine lv_iadd hx hb dL_law__2584 ?_
  refine x_sld C hX hbl hbA hS (i := i) (k := 1) rfl (by omega) hL ha1 dL_law__2585 ?_
  refine lv_aload_n hx hb dL_law__2586 rfl (lv_at hl 1 rfl) ?_
  refine lv_iload hx hb dL_law__2587 (lv_at hl 5 rfl) ?_
  refine lv_iconst (v := 2) hx hb dL_law__2589 rfl ?_
  refine lv_iadd hx hb dL_law__2590 ?_
  refine x_sld C hX hbl hbA hS (i := i) (k := 2) rfl (by omega) hL ha2 dL_law__2591 ?_
  obtain ⟨h2, eh2, hf⟩ := x_bd hf
  refine x_cVv2 C hR hS (S_X12_chance  eh2) (x_k hR 64 rfl) (by decide) rfl mf_X12_chance tw_2061 (Nat.le_of_ble_eq_true rfl) (Nat.le_of_ble_eq_true rfl) hl.1 (Nat.le_of_ble_eq_true rfl) dL_law__2592 ⟨by show cells + 1 ≤ room_1.cells; omega, by show slots + 6 ≤ room_1.slots; omega⟩ (fun H locs hR hS => ?_)
  refine lv_aload_n hx hb dL_law__2595 rfl (lv_at hl 3 rfl) ?_
  refine x_cVi0 C hR hS (S_X12_thrown  rfl) (x_k hR 64 rfl) (by decide) rfl mf_X12_thrown tw_1533 (Nat.le_of_ble_eq_true rfl) (Nat.le_of_ble_eq_true rfl) hl.1 (Nat.le_of_ble_eq_true rfl) dL_law__2596 ⟨by show cells + 1 ≤ room_1.cells; omega, by show slots + 6 ≤ room_1.slots; omega⟩ (fun H locs hR hS => ?_)
  refine lv_iload hx hb dL_law__2599 (lv_at hl 0 rfl) ?_
  refine lv_icmp_eq (tgt := 2606) hx hb dL_law__2601 rfl (fun hc => ?_) (fun hc => ?_)
  · have hf := x_ip hc hf
    refine lv_goto (tgt := 2934) hx hb dL_law__2606 rfl ?_
    cases hf
    exact kx ls _ _ (lv_sub hl [1, 2, 3, 4, 5] rfl) hR hS
  · have hf := x_in hc hf
    refine lv_iconst (v := 0) hx hb dL_law__2604 rfl ?_
    cases hf
def f_row34 (x : Nat) (h : XH) (a1 : Int32) (a2 : Int32) : Option (XH) := Option.bind (f_L_risk x h a1 (if a2 = 0 then 0 else 1)) (fun q2 => Option.bind (f_X12_risk x q2.2 a1 (if a2 = 0 then 0 else 1)) (fun q4 => if (f_X12_thrown x q4.2) = q2.1 then if q2.1 = 0 then if x_b 0 1 = true then if (lg_cmp (q4.2.2.1 (x + 76) (0 : Int32).toNatClampNeg) q4.1) = 0 then some q4.2 else none else none else some q4.2 else none))
set_option maxRecDepth 20000 in
theorem B_row34 {p : Program} {l : Launch} {e : Env} {s : State} {m : MethodId} {args : Array Value} {below : List Frame} {meth : Method} {c : Code} {O : XO} {K : XK} {h h' : XH} {b L i cells slots : Nat} {xs : Nat → Int32} {Q : State → Prop} {a1 : Int32} {a2 : Int32} (C : x_C p s m args meth c O cL_law_ 8 RL (some .boolean)) (hst : l.stackTraces = false) (hX : va_X b L xs s s.heap) (hbl : b < s.heap.size) (hbA : ¬ oA O b) (hL : L ≤ 3072) (hi : i + 6 ≤ L) (ha1 : xs (i + 1) = a1) (ha2 : xs (i + 2) = a2) (hcl : cells + 40 ≤ room_1.cells) (hsl : slots + 900 ≤ room_1.slots) (ls : Array Slot) (H : Heap) (locs : List Loc) (hl : lv_has ls 8 [(0, .ref b), (1, .ref (oX O)), (2, .ref (oX O + 64)), (3, .ref (oX O + 76)), (4, .int (nI i))]) (hR : x_R O K h H) (hS : va_S (oA O) s.heap H locs) (hf : f_row34 (oX O) h a1 a2 = some h') (kx : ∀ (ls : Array Slot) (H : Heap) (locs : List Loc), lv_has ls 8 [(0, .ref b), (1, .ref (oX O)), (2, .ref (oX O + 64)), (3, .ref (oX O + 76)), (4, .int (nI i))] → x_R O K h' H → va_S (oA O) s.heap H locs → W p l e room_1 s m args below meth c H locs (cells + 1) (slots + 6) Q (F0 m 2934 ls [])) : W p l e room_1 s m args below meth c H locs cells slots Q (F0 m 2609 ls []) := by
  have hx := C.1
  have hb := C.2.1
  rw [f_row34] at hf
  refine lv_aload_n hx hb dL_law__2609 rfl (lv_at hl 1 rfl) ?_
  refine lv_aload_n hx hb dL_law__2610 rfl (lv_at hl 0 rfl) ?_
  refine lv_iload hx hb dL_law__2611 (lv_at hl 4 rfl) ?_
  refine lv_iconst (v := 1) hx hb dL_law__2613 rfl ?_
  refine lv_iadd hx hb dL_law__2614 ?_
  refine x_sld C hX hbl hbA hS (i := i) (k := 1) rfl (by omega) hL ha1 dL_law__2615 ?_
  refine lv_aload_n hx hb dL_law__2616 rfl (lv_at hl 0 rfl) ?_
  refine lv_iload hx hb dL_law__2617 (lv_at hl 4 rfl) ?_
  refine lv_iconst (v := 2) hx hb dL_law__2619 rfl ?_
  refine lv_iadd hx hb dL_law__2620 ?_
  refine x_sld C hX hbl hbA hS (i := i) (k := 2) rfl (by omega) hL ha2 dL_law__2621 ?_
  have kM1 : ∀ (ls : Array Slot) (H : Heap) (locs : List Loc), lv_has ls 8 [(0, .ref b), (1, .ref (oX O)), (2, .ref (oX O + 64)), (3, .ref (oX O + 76)), (4, .int (nI i))] → x_R O K h H → va_S (oA O) s.heap H locs → W p l e room_1 s m args below meth c H locs (cells) (slots) Q (F0 m 2630 ls [.int (if a2 = 0 then 0 else 1), .int a1, .ref (oX O)]) := by
    intro ls H locs hl hR hS
    refine lv_aload_n hx hb dL_law__2630 rfl (lv_at hl 3 rfl) ?_
    obtain ⟨⟨r2, h2⟩, eq2, hf⟩ := x_bd hf
    refine x_callL C hR hS rfl (S_L_risk hst eq2) lw_L_risk tw_1462 (Nat.le_of_ble_eq_true rfl) (Nat.le_of_ble_eq_true rfl) (As := [.ref (oX O), .int a1, .int (if a2 = 0 then 0 else 1), .ref (oX O + 76)]) rfl hl.1 (Nat.le_of_ble_eq_true rfl) dL_law__2631 ⟨by show cells + 1 ≤ room_1.cells; omega, by show slots + 6 ≤ room_1.slots; omega⟩ rfl (fun H locs hR hS => ?_)
    refine lv_istore (lv' := [(5, _), (0, _), (1, _), (2, _), (3, _), (4, _)]) hx hb dL_law__2634 hl (Nat.le_of_ble_eq_true rfl) rfl (fun ls hl => ?_)
    refine lv_aload_n hx hb dL_law__2636 rfl (lv_at hl 3 rfl) ?_
    refine lv_aload_n hx hb dL_law__2637 rfl (lv_at hl 1 rfl) ?_
    refine lv_iload hx hb dL_law__2638 (lv_at hl 5 rfl) ?_
    refine lv_iconst (v := 1) hx hb dL_law__2640 rfl ?_
    refine lv_iadd hx hb dL_law__2641 ?_
    refine x_sld C hX hbl hbA hS (i := i) (k := 1) rfl (by omega) hL ha1 dL_law__2642 ?_
    refine lv_aload_n hx hb dL_law__2643 rfl (lv_at hl 1 rfl) ?_
    refine lv_iload hx hb dL_law__2644 (lv_at hl 5 rfl) ?_
    refine lv_iconst (v := 2) hx hb dL_law__2646 rfl ?_
    refine lv_iadd hx hb dL_law__2647 ?_
    refine x_sld C hX hbl hbA hS (i := i) (k := 2) rfl (by omega) hL ha2 dL_law__2648 ?_
    have kM3 : ∀ (ls : Array Slot) (H : Heap) (locs : List Loc), lv_has ls 8 [(0, .ref b), (1, .ref (oX O)), (2, .ref (oX O + 64)), (3, .ref (oX O + 76)), (4, .int (nI i)), (5, .int r2)] → x_R O K h2 H → va_S (oA O) s.heap H locs → W p l e room_1 s m args below meth c H locs (cells + 1) (slots + 6) Q (F0 m 2657 ls [.int (if a2 = 0 then 0 else 1), .int a1, .ref (oX O + 64)]) := by
      intro ls H locs hl hR hS
      obtain ⟨q4, eq4, hf⟩ := x_bd hf
      refine x_cVl2 C hR hS (S_X12_risk  eq4) (x_k hR 64 rfl) (by decide) rfl mf_X12_risk tw_2065 (Nat.le_of_ble_eq_true rfl) (Nat.le_of_ble_eq_true rfl) hl.1 (Nat.le_of_ble_eq_true rfl) dL_law__2657 ⟨by show cells + 1 ≤ room_1.cells; omega, by show slots + 6 ≤ room_1.slots; omega⟩ (fun H locs hR hS => ?_)
      refine lv_lstore (lv' := [(6, _), (0, _), (1, _), (2, _), (3, _), (4, _), (5, _)]) hx hb dL_law__2660 hl (Nat.le_of_ble_eq_true rfl) rfl (fun ls hl => ?_)
      refine lv_aload_n hx hb dL_law__2662 rfl (lv_at hl 3 rfl) ?_
      refine x_cVi0 C hR hS (S_X12_thrown  rfl) (x_k hR 64 rfl) (by decide) rfl mf_X12_thrown tw_1533 (Nat.le_of_ble_eq_true rfl) (Nat.le_of_ble_eq_true rfl) hl.1 (Nat.le_of_ble_eq_true rfl) dL_law__2663 ⟨by show cells + 1 ≤ room_1.cells; omega, by show slots + 6 ≤ room_1.slots; omega⟩ (fun H locs hR hS => ?_)
      refine lv_iload hx hb dL_law__2666 (lv_at hl 6 rfl) ?_
      refine lv_icmp_eq (tgt := 2673) hx hb dL_law__2668 rfl (fun hc => ?_) (fun hc => ?_)
      · have hf := x_ip hc hf
        refine lv_iload hx hb dL_law__2673 (lv_at hl 6 rfl) ?_
        refine lv_if_ne (tgt := 2689) hx hb dL_law__2675 rfl (fun hc => ?_) (fun hc => ?_)
        · have hf := x_in hc hf
          refine lv_goto (tgt := 2934) hx hb dL_law__2689 rfl ?_
          cases hf
          exact kx ls _ _ (lv_sub hl [1, 2, 3, 4, 5] rfl) hR hS
        · have hf := x_ip hc hf
          refine lv_aload_n hx hb dL_law__2678 rfl (lv_at hl 4 rfl) ?_
          refine lv_iconst (v := 0) hx hb dL_law__2679 rfl ?_
          obtain ⟨g5, hf⟩ := x_gd hf
          refine x_lald C hR (x_k1 (x_k hR 76 rfl)) (x_k2 (x_k hR 76 rfl) g5) dL_law__2680 ?_
          refine lv_lload hx hb dL_law__2681 (lv_at hl 0 rfl) ?_
          refine W.lcmp hx hb dL_law__2683 ?_
          refine lv_if_eq (tgt := 2689) hx hb dL_law__2684 rfl (fun hc => ?_) (fun hc => ?_)
          · have hf := x_ip hc hf
            refine lv_goto (tgt := 2934) hx hb dL_law__2689 rfl ?_
            cases hf
            exact kx ls _ _ (lv_sub hl [1, 2, 3, 4, 5] rfl) hR hS
          · have hf := x_in hc hf
            refine lv_iconst (v := 0) hx hb dL_law__2687 rfl ?_
            cases hf
      · have hf := x_in hc hf
        refine lv_iconst (v := 0) hx hb dL_law__2671 rfl ?_
        cases hf
    refine lv_if_eq (tgt := 2656) hx hb dL_law__2649 rfl (fun hc => ?_) (fun hc => ?_)
    · try simp only [if_pos hc] at kM3
      refine lv_iconst (v := 0) hx hb dL_law__2656 rfl ?_
      exact kM3 ls _ _ (lv_sub hl [1, 2, 3, 4, 5, 0] rfl) hR hS
    · try simp only [if_neg hc] at kM3
      refine lv_iconst (v := 1) hx hb dL_law__2652 rfl ?_
      refine lv_goto (tgt := 2657) hx hb dL_law__2653 rfl ?_
      exact kM3 ls _ _ (lv_sub hl [1, 2, 3, 4, 5, 0] rfl) hR hS
  refine lv_if_eq (tgt := 2629) hx hb dL_law__2622 rfl (fun hc => ?_) (fun hc => ?_)
  · try simp only [if_pos hc] at kM1
    refine lv_iconst (v := 0) hx hb dL_law__2629 rfl ?_
    exact kM1 ls _ _ (lv_sub hl [0, 1, 2, 3, 4] rfl) hR hS
  · try simp only [if_neg hc] at kM1
    refine lv_iconst (v := 1) hx hb dL_law__2625 rfl ?_
    refine lv_goto (tgt := 2630) hx hb dL_law__2626 rfl ?_
    exact kM1 ls _ _ (lv_sub hl [0, 1, 2, 3, 4] rfl) hR hS
def f_row35 (x : Nat) (h : XH) (a1 : Int32) : Option (XH) := Option.bind (f_L_week x h a1) (fun q1 => Option.bind (f_X12_week x q1.2 a1) (fun q2 => if (f_X12_thrown x q2.2) = q1.1 then if q1.1 = 0 then if x_b 0 1 = true then if (lg_cmp (q2.2.2.1 (x + 76) (0 : Int32).toNatClampNeg) q2.1.toInt64) = 0 then some q2.2 else none else none else some q2.2 else none))
set_option maxRecDepth 20000 in
theorem B_row35 {p : Program} {l : Launch} {e : Env} {s : State} {m : MethodId} {args : Array Value} {below : List Frame} {meth : Method} {c : Code} {O : XO} {K : XK} {h h' : XH} {b L i cells slots : Nat} {xs : Nat → Int32} {Q : State → Prop} {a1 : Int32} (C : x_C p s m args meth c O cL_law_ 8 RL (some .boolean)) (hst : l.stackTraces = false) (hX : va_X b L xs s s.heap) (hbl : b < s.heap.size) (hbA : ¬ oA O b) (hL : L ≤ 3072) (hi : i + 6 ≤ L) (ha1 : xs (i + 1) = a1) (hcl : cells + 40 ≤ room_1.cells) (hsl : slots + 900 ≤ room_1.slots) (ls : Array Slot) (H : Heap) (locs : List Loc) (hl : lv_has ls 8 [(0, .ref b), (1, .ref (oX O)), (2, .ref (oX O + 64)), (3, .ref (oX O + 76)), (4, .int (nI i))]) (hR : x_R O K h H) (hS : va_S (oA O) s.heap H locs) (hf : f_row35 (oX O) h a1 = some h') (kx : ∀ (ls : Array Slot) (H : Heap) (locs : List Loc), lv_has ls 8 [(0, .ref b), (1, .ref (oX O)), (2, .ref (oX O + 64)), (3, .ref (oX O + 76)), (4, .int (nI i))] → x_R O K h' H → va_S (oA O) s.heap H locs → W p l e room_1 s m args below meth c H locs (cells + 1) (slots + 6) Q (F0 m 2934 ls [])) : W p l e room_1 s m args below meth c H locs cells slots Q (F0 m 2692 ls []) := by
  have hx := C.1
  have hb := C.2.1
  rw [f_row35] at hf
  refine lv_aload_n hx hb dL_law__2692 rfl (lv_at hl 1 rfl) ?_
  refine lv_aload_n hx hb dL_law__2693 rfl (lv_at hl 0 rfl) ?_
  refine lv_iload hx hb dL_law__2694 (lv_at hl 4 rfl) ?_
  refine lv_iconst (v := 1) hx hb dL_law__2696 rfl ?_
  refine lv_iadd hx hb dL_law__2697 ?_
  refine x_sld C hX hbl hbA hS (i := i) (k := 1) rfl (by omega) hL ha1 dL_law__2698 ?_
  refine lv_aload_n hx hb dL_law__2699 rfl (lv_at hl 3 rfl) ?_
  obtain ⟨⟨r1, h1⟩, eq1, hf⟩ := x_bd hf
  refine x_callL C hR hS rfl (S_L_week hst eq1) lw_L_week tw_1477 (Nat.le_of_ble_eq_true rfl) (Nat.le_of_ble_eq_true rfl) (As := [.ref (oX O), .int a1, .ref (oX O + 76)]) rfl hl.1 (Nat.le_of_ble_eq_true rfl) dL_law__2700 ⟨by show cells + 1 ≤ room_1.cells; omega, by show slots + 6 ≤ room_1.slots; omega⟩ rfl (fun H locs hR hS => ?_)
  refine lv_istore (lv' := [(5, _), (0, _), (1, _), (2, _), (3, _), (4, _)]) hx hb dL_law__2703 hl (Nat.le_of_ble_eq_true rfl) rfl (fun ls hl => ?_)
  refine lv_aload_n hx hb dL_law__2705 rfl (lv_at hl 3 rfl) ?_
  refine lv_aload_n hx hb dL_law__2706 rfl (lv_at hl 1 rfl) ?_
  refine lv_iload hx hb dL_law__2707 (lv_at hl 5 rfl) ?_
  refine lv_iconst (v := 1) hx hb dL_law__2709 rfl ?_
  refine lv_iadd hx hb dL_law__2710 ?_
  refine x_sld C hX hbl hbA hS (i := i) (k := 1) rfl (by omega) hL ha1 dL_law__2711 ?_
  obtain ⟨q2, eq2, hf⟩ := x_bd hf
  refine x_cVi1 C hR hS (S_X12_week  eq2) (x_k hR 64 rfl) (by decide) rfl mf_X12_week tw_2074 (Nat.le_of_ble_eq_true rfl) (Nat.le_of_ble_eq_true rfl) hl.1 (Nat.le_of_ble_eq_true rfl) dL_law__2712 ⟨by show cells + 1 ≤ room_1.cells; omega, by show slots + 6 ≤ room_1.slots; omega⟩ (fun H locs hR hS => ?_)
  refine lv_istore (lv' := [(6, _), (5, _), (0, _), (1, _), (2, _), (3, _), (4, _)]) hx hb dL_law__2715 hl (Nat.le_of_ble_eq_true rfl) rfl (fun ls hl => ?_)
  refine lv_aload_n hx hb dL_law__2717 rfl (lv_at hl 4 rfl) ?_
  refine x_cVi0 C hR hS (S_X12_thrown  rfl) (x_k hR 64 rfl) (by decide) rfl mf_X12_thrown tw_1533 (Nat.le_of_ble_eq_true rfl) (Nat.le_of_ble_eq_true rfl) hl.1 (Nat.le_of_ble_eq_true rfl) dL_law__2718 ⟨by show cells + 1 ≤ room_1.cells; omega, by show slots + 6 ≤ room_1.slots; omega⟩ (fun H locs hR hS => ?_)
  refine lv_iload hx hb dL_law__2721 (lv_at hl 1 rfl) ?_
  refine lv_icmp_eq (tgt := 2728) hx hb dL_law__2723 rfl (fun hc => ?_) (fun hc => ?_)
  · have hf := x_ip hc hf
    refine lv_iload hx hb dL_law__2728 (lv_at hl 1 rfl) ?_
    refine lv_if_ne (tgt := 2745) hx hb dL_law__2730 rfl (fun hc => ?_) (fun hc => ?_)
    · have hf := x_in hc hf
      refine lv_goto (tgt := 2934) hx hb dL_law__2745 rfl ?_
      cases hf
      exact kx ls _ _ (lv_sub hl [2, 3, 4, 5, 6] rfl) hR hS
    · have hf := x_ip hc hf
      refine lv_aload_n hx hb dL_law__2733 rfl (lv_at hl 5 rfl) ?_
      refine lv_iconst (v := 0) hx hb dL_law__2734 rfl ?_
      obtain ⟨g3, hf⟩ := x_gd hf
      refine x_lald C hR (x_k1 (x_k hR 76 rfl)) (x_k2 (x_k hR 76 rfl) g3) dL_law__2735 ?_
      refine lv_iload hx hb dL_law__2736 (lv_at hl 0 rfl) ?_
      refine lv_i2l hx hb dL_law__2738 rfl ?_
      refine W.lcmp hx hb dL_law__2739 ?_
      refine lv_if_eq (tgt := 2745) hx hb dL_law__2740 rfl (fun hc => ?_) (fun hc => ?_)
      · have hf := x_ip hc hf
        refine lv_goto (tgt := 2934) hx hb dL_law__2745 rfl ?_
        cases hf
        exact kx ls _ _ (lv_sub hl [2, 3, 4, 5, 6] rfl) hR hS
      · have hf := x_in hc hf
        refine lv_iconst (v := 0) hx hb dL_law__2743 rfl ?_
        cases hf
  · have hf := x_in hc hf
    refine lv_iconst (v := 0) hx hb dL_law__2726 rfl ?_
    cases hf
def f_row36 (x : Nat) (h : XH) (a1 : Int32) (a2 : Int32) : Option (XH) := Option.bind (f_L_rates x h a1 a2) (fun q1 => Option.bind (f_X12_rates x q1.2 a1 a2) (fun q2 => if (f_X12_thrown x q2.2) = q1.1 then if q1.1 = 0 then if x_b 0 1 = true then if (lg_cmp (q2.2.2.1 (x + 76) (0 : Int32).toNatClampNeg) q2.1.toInt64) = 0 then some q2.2 else none else none else some q2.2 else none))
set_option maxRecDepth 20000 in
theorem B_row36 {p : Program} {l : Launch} {e : Env} {s : State} {m : MethodId} {args : Array Value} {below : List Frame} {meth : Method} {c : Code} {O : XO} {K : XK} {h h' : XH} {b L i cells slots : Nat} {xs : Nat → Int32} {Q : State → Prop} {a1 : Int32} {a2 : Int32} (C : x_C p s m args meth c O cL_law_ 8 RL (some .boolean)) (hst : l.stackTraces = false) (hX : va_X b L xs s s.heap) (hbl : b < s.heap.size) (hbA : ¬ oA O b) (hL : L ≤ 3072) (hi : i + 6 ≤ L) (ha1 : xs (i + 1) = a1) (ha2 : xs (i + 2) = a2) (hcl : cells + 40 ≤ room_1.cells) (hsl : slots + 900 ≤ room_1.slots) (ls : Array Slot) (H : Heap) (locs : List Loc) (hl : lv_has ls 8 [(0, .ref b), (1, .ref (oX O)), (2, .ref (oX O + 64)), (3, .ref (oX O + 76)), (4, .int (nI i))]) (hR : x_R O K h H) (hS : va_S (oA O) s.heap H locs) (hf : f_row36 (oX O) h a1 a2 = some h') (kx : ∀ (ls : Array Slot) (H : Heap) (locs : List Loc), lv_has ls 8 [(0, .ref b), (1, .ref (oX O)), (2, .ref (oX O + 64)), (3, .ref (oX O + 76)), (4, .int (nI i))] → x_R O K h' H → va_S (oA O) s.heap H locs → W p l e room_1 s m args below meth c H locs (cells + 1) (slots + 6) Q (F0 m 2934 ls [])) : W p l e room_1 s m args below meth c H locs cells slots Q (F0 m 2748 ls []) := by
  have hx := C.1
  have hb := C.2.1
  rw [f_row36] at hf
  refine lv_aload_n hx hb dL_law__2748 rfl (lv_at hl 1 rfl) ?_
  refine lv_aload_n hx hb dL_law__2749 rfl (lv_at hl 0 rfl) ?_
  refine lv_iload hx hb dL_law__2750 (lv_at hl 4 rfl) ?_
  refine lv_iconst (v := 1) hx hb dL_law__2752 rfl ?_
  refine lv_iadd hx hb dL_law__2753 ?_
  refine x_sld C hX hbl hbA hS (i := i) (k := 1) rfl (by omega) hL ha1 dL_law__2754 ?_
  refine lv_aload_n hx hb dL_law__2755 rfl (lv_at hl 0 rfl) ?_
  refine lv_iload hx hb dL_law__2756 (lv_at hl 4 rfl) ?_
  refine lv_iconst (v := 2) hx hb dL_law__2758 rfl ?_
  refine lv_iadd hx hb dL_law__2759 ?_
  refine x_sld C hX hbl hbA hS (i := i) (k := 2) rfl (by omega) hL ha2 dL_law__2760 ?_
  refine lv_aload_n hx hb dL_law__2761 rfl (lv_at hl 3 rfl) ?_
  obtain ⟨⟨r1, h1⟩, eq1, hf⟩ := x_bd hf
  refine x_callL C hR hS rfl (S_L_rates hst eq1) lw_L_rates tw_1486 (Nat.le_of_ble_eq_true rfl) (Nat.le_of_ble_eq_true rfl) (As := [.ref (oX O), .int a1, .int a2, .ref (oX O + 76)]) rfl hl.1 (Nat.le_of_ble_eq_true rfl) dL_law__2762 ⟨by show cells + 1 ≤ room_1.cells; omega, by show slots + 6 ≤ room_1.slots; omega⟩ rfl (fun H locs hR hS => ?_)
  refine lv_istore (lv' := [(5, _), (0, _), (1, _), (2, _), (3, _), (4, _)]) hx hb dL_law__2765 hl (Nat.le_of_ble_eq_true rfl) rfl (fun ls hl => ?_)
  refine lv_aload_n hx hb dL_law__2767 rfl (lv_at hl 3 rfl) ?_
  refine lv_aload_n hx hb dL_law__2768 rfl (lv_at hl 1 rfl) ?_
  refine lv_iload hx hb dL_law__2769 (lv_at hl 5 rfl) ?_
  refine lv_iconst (v := 1) hx hb dL_law__2771 rfl ?_
  refine lv_iadd hx hb dL_law__2772 ?_
  refine x_sld C hX hbl hbA hS (i := i) (k := 1) rfl (by omega) hL ha1 dL_law__2773 ?_
  refine lv_aload_n hx hb dL_law__2774 rfl (lv_at hl 1 rfl) ?_
  refine lv_iload hx hb dL_law__2775 (lv_at hl 5 rfl) ?_
  refine lv_iconst (v := 2) hx hb dL_law__2777 rfl ?_
  refine lv_iadd hx hb dL_law__2778 ?_
  refine x_sld C hX hbl hbA hS (i := i) (k := 2) rfl (by omega) hL ha2 dL_law__2779 ?_
  obtain ⟨q2, eq2, hf⟩ := x_bd hf
  refine x_cVi2 C hR hS (S_X12_rates  eq2) (x_k hR 64 rfl) (by decide) rfl mf_X12_rates tw_2078 (Nat.le_of_ble_eq_true rfl) (Nat.le_of_ble_eq_true rfl) hl.1 (Nat.le_of_ble_eq_true rfl) dL_law__2780 ⟨by show cells + 1 ≤ room_1.cells; omega, by show slots + 6 ≤ room_1.slots; omega⟩ (fun H locs hR hS => ?_)
  refine lv_istore (lv' := [(6, _), (5, _), (0, _), (1, _), (2, _), (3, _), (4, _)]) hx hb dL_law__2783 hl (Nat.le_of_ble_eq_true rfl) rfl (fun ls hl => ?_)
  refine lv_aload_n hx hb dL_law__2785 rfl (lv_at hl 4 rfl) ?_
  refine x_cVi0 C hR hS (S_X12_thrown  rfl) (x_k hR 64 rfl) (by decide) rfl mf_X12_thrown tw_1533 (Nat.le_of_ble_eq_true rfl) (Nat.le_of_ble_eq_true rfl) hl.1 (Nat.le_of_ble_eq_true rfl) dL_law__2786 ⟨by show cells + 1 ≤ room_1.cells; omega, by show slots + 6 ≤ room_1.slots; omega⟩ (fun H locs hR hS => ?_)
  refine lv_iload hx hb dL_law__2789 (lv_at hl 1 rfl) ?_
  refine lv_icmp_eq (tgt := 2796) hx hb dL_law__2791 rfl (fun hc => ?_) (fun hc => ?_)
  · have hf := x_ip hc hf
    refine lv_iload hx hb dL_law__2796 (lv_at hl 1 rfl) ?_
    refine lv_if_ne (tgt := 2813) hx hb dL_law__2798 rfl (fun hc => ?_) (fun hc => ?_)
    · have hf := x_in hc hf
      refine lv_goto (tgt := 2934) hx hb dL_law__2813 rfl ?_
      cases hf
      exact kx ls _ _ (lv_sub hl [2, 3, 4, 5, 6] rfl) hR hS
    · have hf := x_ip hc hf
      refine lv_aload_n hx hb dL_law__2801 rfl (lv_at hl 5 rfl) ?_
      refine lv_iconst (v := 0) hx hb dL_law__2802 rfl ?_
      obtain ⟨g3, hf⟩ := x_gd hf
      refine x_lald C hR (x_k1 (x_k hR 76 rfl)) (x_k2 (x_k hR 76 rfl) g3) dL_law__2803 ?_
      refine lv_iload hx hb dL_law__2804 (lv_at hl 0 rfl) ?_
      refine lv_i2l hx hb dL_law__2806 rfl ?_
      refine W.lcmp hx hb dL_law__2807 ?_
      refine lv_if_eq (tgt := 2813) hx hb dL_law__2808 rfl (fun hc => ?_) (fun hc => ?_)
      · have hf := x_ip hc hf
        refine lv_goto (tgt := 2934) hx hb dL_law__2813 rfl ?_
        cases hf
        exact kx ls _ _ (lv_sub hl [2, 3, 4, 5, 6] rfl) hR hS
      · have hf := x_in hc hf
        refine lv_iconst (v := 0) hx hb dL_law__2811 rfl ?_
        cases hf
  · have hf := x_in hc hf
    refine lv_iconst (v := 0) hx hb dL_law__2794 rfl ?_
    cases hf
def f_row37 (K : XK) (x : Nat) (h : XH) : Option (XH) := Option.bind (f_X11_dullest K x h) (fun q1 => Option.bind (f_X12_dullest x q1.2) (fun q2 => if q1.1 = q2.1 then some q2.2 else none))
set_option maxRecDepth 20000 in
theorem B_row37 {p : Program} {l : Launch} {e : Env} {s : State} {m : MethodId} {args : Array Value} {below : List Frame} {meth : Method} {c : Code} {O : XO} {K : XK} {h h' : XH} {b L i cells slots : Nat} {xs : Nat → Int32} {Q : State → Prop} (C : x_C p s m args meth c O cL_law_ 8 RL (some .boolean)) (hst : l.stackTraces = false) (hX : va_X b L xs s s.heap) (hbl : b < s.heap.size) (hbA : ¬ oA O b) (hL : L ≤ 3072) (hi : i + 6 ≤ L) (hcl : cells + 40 ≤ room_1.cells) (hsl : slots + 900 ≤ room_1.slots) (ls : Array Slot) (H : Heap) (locs : List Loc) (hl : lv_has ls 8 [(0, .ref b), (1, .ref (oX O)), (2, .ref (oX O + 64)), (3, .ref (oX O + 76)), (4, .int (nI i))]) (hR : x_R O K h H) (hS : va_S (oA O) s.heap H locs) (hf : f_row37 K (oX O) h = some h') (kx : ∀ (ls : Array Slot) (H : Heap) (locs : List Loc), lv_has ls 8 [(0, .ref b), (1, .ref (oX O)), (2, .ref (oX O + 64)), (3, .ref (oX O + 76)), (4, .int (nI i))] → x_R O K h' H → va_S (oA O) s.heap H locs → W p l e room_1 s m args below meth c H locs (cells) (slots) Q (F0 m 2934 ls [])) : W p l e room_1 s m args below meth c H locs cells slots Q (F0 m 2816 ls []) := by
  have hx := C.1
  have hb := C.2.1
  rw [f_row37] at hf
  refine lv_aload_n hx hb dL_law__2816 rfl (lv_at hl 1 rfl) ?_
  obtain ⟨q1, eq1, hf⟩ := x_bd hf
  refine x_cVi0 C hR hS (S_X11_dullest  eq1) (x_k hR 0 rfl) (by decide) rfl mf_X11_dullest tw_559 (Nat.le_of_ble_eq_true rfl) (Nat.le_of_ble_eq_true rfl) hl.1 (Nat.le_of_ble_eq_true rfl) dL_law__2817 ⟨by show cells ≤ room_1.cells; omega, by show slots ≤ room_1.slots; omega⟩ (fun H locs hR hS => ?_)
  refine lv_aload_n hx hb dL_law__2820 rfl (lv_at hl 2 rfl) ?_
  obtain ⟨q2, eq2, hf⟩ := x_bd hf
  refine x_cVi0 C hR hS (S_X12_dullest  eq2) (x_k hR 64 rfl) (by decide) rfl mf_X12_dullest tw_2086 (Nat.le_of_ble_eq_true rfl) (Nat.le_of_ble_eq_true rfl) hl.1 (Nat.le_of_ble_eq_true rfl) dL_law__2821 ⟨by show cells ≤ room_1.cells; omega, by show slots ≤ room_1.slots; omega⟩ (fun H locs hR hS => ?_)
  refine lv_icmp_eq (tgt := 2934) hx hb dL_law__2824 rfl (fun hc => ?_) (fun hc => ?_)
  · have hf := x_ip hc hf
    cases hf
    exact kx ls _ _ (lv_sub hl [0, 1, 2, 3, 4] rfl) hR hS
  · have hf := x_in hc hf
    refine lv_iconst (v := 0) hx hb dL_law__2827 rfl ?_
    cases hf
def f_row38 (K : XK) (x : Nat) (h : XH) (a1 : Int32) : Option (XH) := Option.bind (f_L_change K x h a1) (fun q1 => Option.bind (f_X12_change x q1.2 a1) (fun q2 => if (f_X12_thrown x q2.2) = q1.1 then if q1.1 = 0 then if x_b 0 1 = true then if (lg_cmp (q2.2.2.1 (x + 76) (0 : Int32).toNatClampNeg) q2.1.toInt64) = 0 then some q2.2 else none else none else some q2.2 else none))
set_option maxRecDepth 20000 in
theorem B_row38 {p : Program} {l : Launch} {e : Env} {s : State} {m : MethodId} {args : Array Value} {below : List Frame} {meth : Method} {c : Code} {O : XO} {K : XK} {h h' : XH} {b L i cells slots : Nat} {xs : Nat → Int32} {Q : State → Prop} {a1 : Int32} (C : x_C p s m args meth c O cL_law_ 8 RL (some .boolean)) (hst : l.stackTraces = false) (hX : va_X b L xs s s.heap) (hbl : b < s.heap.size) (hbA : ¬ oA O b) (hL : L ≤ 3072) (hi : i + 6 ≤ L) (ha1 : xs (i + 1) = a1) (hcl : cells + 40 ≤ room_1.cells) (hsl : slots + 900 ≤ room_1.slots) (ls : Array Slot) (H : Heap) (locs : List Loc) (hl : lv_has ls 8 [(0, .ref b), (1, .ref (oX O)), (2, .ref (oX O + 64)), (3, .ref (oX O + 76)), (4, .int (nI i))]) (hR : x_R O K h H) (hS : va_S (oA O) s.heap H locs) (hf : f_row38 K (oX O) h a1 = some h') (kx : ∀ (ls : Array Slot) (H : Heap) (locs : List Loc), lv_has ls 8 [(0, .ref b), (1, .ref (oX O)), (2, .ref (oX O + 64)), (3, .ref (oX O + 76)), (4, .int (nI i))] → x_R O K h' H → va_S (oA O) s.heap H locs → W p l e room_1 s m args below meth c H locs (cells + 1) (slots + 6) Q (F0 m 2934 ls [])) : W p l e room_1 s m args below meth c H locs cells slots Q (F0 m 2829 ls []) := by
  have hx := C.1
  have hb := C.2.1
  rw [f_row38] at hf
  refine lv_aload_n hx hb dL_law__2829 rfl (lv_at hl 1 rfl) ?_
  refine lv_aload_n hx hb dL_law__2830 rfl (lv_at hl 0 rfl) ?_
  refine lv_iload hx hb dL_law__2831 (lv_at hl 4 rfl) ?_
  refine lv_iconst (v := 1) hx hb dL_law__2833 rfl ?_
  refine lv_iadd hx hb dL_law__2834 ?_
  refine x_sld C hX hbl hbA hS (i := i) (k := 1) rfl (by omega) hL ha1 dL_law__2835 ?_
  refine lv_aload_n hx hb dL_law__2836 rfl (lv_at hl 3 rfl) ?_
  obtain ⟨⟨r1, h1⟩, eq1, hf⟩ := x_bd hf
  refine x_callL C hR hS rfl (S_L_change hst eq1) lw_L_change tw_1510 (Nat.le_of_ble_eq_true rfl) (Nat.le_of_ble_eq_true rfl) (As := [.ref (oX O), .int a1, .ref (oX O + 76)]) rfl hl.1 (Nat.le_of_ble_eq_true rfl) dL_law__2837 ⟨by show cells + 1 ≤ room_1.cells; omega, by show slots + 6 ≤ room_1.slots; omega⟩ rfl (fun H locs hR hS => ?_)
  refine lv_istore (lv' := [(5, _), (0, _), (1, _), (2, _), (3, _), (4, _)]) hx hb dL_law__2840 hl (Nat.le_of_ble_eq_true rfl) rfl (fun ls hl => ?_)
  refine lv_aload_n hx hb dL_law__2842 rfl (lv_at hl 3 rfl) ?_
  refine lv_aload_n hx hb dL_law__2843 rfl (lv_at hl 1 rfl) ?_
  refine lv_iload hx hb dL_law__2844 (lv_at hl 5 rfl) ?_
  refine lv_iconst (v := 1) hx hb dL_law__2846 rfl ?_
  refine lv_iadd hx hb dL_law__2847 ?_
  refine x_sld C hX hbl hbA hS (i := i) (k := 1) rfl (by omega) hL ha1 dL_law__2848 ?_
  obtain ⟨q2, eq2, hf⟩ := x_bd hf
  refine x_cVi1 C hR hS (S_X12_change  eq2) (x_k hR 64 rfl) (by decide) rfl mf_X12_change tw_2090 (Nat.le_of_ble_eq_true rfl) (Nat.le_of_ble_eq_true rfl) hl.1 (Nat.le_of_ble_eq_true rfl) dL_law__2849 ⟨by show cells + 1 ≤ room_1.cells; omega, by show slots + 6 ≤ room_1.slots; omega⟩ (fun H locs hR hS => ?_)
  refine lv_istore (lv' := [(6, _), (5, _), (0, _), (1, _), (2, _), (3, _), (4, _)]) hx hb dL_law__2852 hl (Nat.le_of_ble_eq_true rfl) rfl (fun ls hl => ?_)
  refine lv_aload_n hx hb dL_law__2854 rfl (lv_at hl 4 rfl) ?_
  refine x_cVi0 C hR hS (S_X12_thrown  rfl) (x_k hR 64 rfl) (by decide) rfl mf_X12_thrown tw_1533 (Nat.le_of_ble_eq_true rfl) (Nat.le_of_ble_eq_true rfl) hl.1 (Nat.le_of_ble_eq_true rfl) dL_law__2855 ⟨by show cells + 1 ≤ room_1.cells; omega, by show slots + 6 ≤ room_1.slots; omega⟩ (fun H locs hR hS => ?_)
  refine lv_iload hx hb dL_law__2858 (lv_at hl 1 rfl) ?_
  refine lv_icmp_eq (tgt := 2865) hx hb dL_law__2860 rfl (fun hc => ?_) (fun hc => ?_)
  · have hf := x_ip hc hf
    refine lv_iload hx hb dL_law__2865 (lv_at hl 1 rfl) ?_
    refine lv_if_ne (tgt := 2882) hx hb dL_law__2867 rfl (fun hc => ?_) (fun hc => ?_)
    · have hf := x_in hc hf
      refine lv_goto (tgt := 2934) hx hb dL_law__2882 rfl ?_
      cases hf
      exact kx ls _ _ (lv_sub hl [2, 3, 4, 5, 6] rfl) hR hS
    · have hf := x_ip hc hf
      refine lv_aload_n hx hb dL_law__2870 rfl (lv_at hl 5 rfl) ?_
      refine lv_iconst (v := 0) hx hb dL_law__2871 rfl ?_
      obtain ⟨g3, hf⟩ := x_gd hf
      refine x_lald C hR (x_k1 (x_k hR 76 rfl)) (x_k2 (x_k hR 76 rfl) g3) dL_law__2872 ?_
      refine lv_iload hx hb dL_law__2873 (lv_at hl 0 rfl) ?_
      refine lv_i2l hx hb dL_law__2875 rfl ?_
      refine W.lcmp hx hb dL_law__2876 ?_
      refine lv_if_eq (tgt := 2882) hx hb dL_law__2877 rfl (fun hc => ?_) (fun hc => ?_)
      · have hf := x_ip hc hf
        refine lv_goto (tgt := 2934) hx hb dL_law__2882 rfl ?_
        cases hf
        exact kx ls _ _ (lv_sub hl [2, 3, 4, 5, 6] rfl) hR hS
      · have hf := x_in hc hf
        refine lv_iconst (v := 0) hx hb dL_law__2880 rfl ?_
        cases hf
  · have hf := x_in hc hf
    refine lv_iconst (v := 0) hx hb dL_law__2863 rfl ?_
    cases hf
def f_row39 (K : XK) (x n : Nat) (h : XH) : Option (XK × XH) := Option.bind (f_X11_image K x n h) (fun q1 => Option.bind (f_X12_image x q1.2) (fun h2 => some (q1.1, h2)))
set_option maxRecDepth 20000 in
theorem B_row39 {p : Program} {l : Launch} {e : Env} {s : State} {m : MethodId} {args : Array Value} {below : List Frame} {meth : Method} {c : Code} {O : XO} {K K' : XK} {h h' : XH} {b L i cells slots n : Nat} {xs : Nat → Int32} {Q : State → Prop} (C : x_C p s m args meth c O cL_law_ 8 RL (some .boolean)) (hst : l.stackTraces = false) (hA : ∀ q, oX O ≤ q → oA O q) (hX : va_X b L xs s s.heap) (hbl : b < s.heap.size) (hbA : ¬ oA O b) (hL : L ≤ 3072) (hi : i + 6 ≤ L) (hcl : cells + 40 ≤ room_1.cells) (hsl : slots + 900 ≤ room_1.slots) (ls : Array Slot) (H : Heap) (locs : List Loc) (hz : H.size = n) (hl : lv_has ls 8 [(0, .ref b), (1, .ref (oX O)), (2, .ref (oX O + 64)), (3, .ref (oX O + 76)), (4, .int (nI i))]) (hR : x_R O K h H) (hS : va_S (oA O) s.heap H locs) (hf : f_row39 K (oX O) n h = some (K', h')) (kx : ∀ (ls : Array Slot) (H : Heap) (locs : List Loc), lv_has ls 8 [(0, .ref b), (1, .ref (oX O)), (2, .ref (oX O + 64)), (3, .ref (oX O + 76)), (4, .int (nI i))] → x_R O K' h' H → va_S (oA O) s.heap H locs → W p l e room_1 s m args below meth c H locs (cells + 34) (slots + 873) Q (F0 m 2934 ls [])) : W p l e room_1 s m args below meth c H locs cells slots Q (F0 m 2885 ls []) := by
  have hx := C.1
  have hb := C.2.1
  rw [f_row39] at hf
  refine lv_aload_n hx hb dL_law__2885 rfl (lv_at hl 1 rfl) ?_
  obtain ⟨⟨K1, h1⟩, eq1, hf⟩ := x_bd hf
  refine x_callN C hR hS hz (S_X11_image hA eq1) (ci := 11) (x_k1 (x_k hR 0 rfl)) (by decide) rfl mf_X11_image tw_578 (Nat.le_of_ble_eq_true rfl) (Nat.le_of_ble_eq_true rfl) (As := []) rfl hl.1 (Nat.le_of_ble_eq_true rfl) dL_law__2886 ⟨by show cells + 34 ≤ room_1.cells; omega, by show slots + 873 ≤ room_1.slots; omega⟩ rfl (fun H locs hR hS => ?_)
  refine lv_aload_n hx hb dL_law__2889 rfl (lv_at hl 2 rfl) ?_
  obtain ⟨h2, eh2, hf⟩ := x_bd hf
  refine x_cVv0 C hR hS (S_X12_image  eh2) (x_k hR 64 rfl) (by decide) rfl mf_X12_image tw_1616 (Nat.le_of_ble_eq_true rfl) (Nat.le_of_ble_eq_true rfl) hl.1 (Nat.le_of_ble_eq_true rfl) dL_law__2890 ⟨by show cells + 34 ≤ room_1.cells; omega, by show slots + 873 ≤ room_1.slots; omega⟩ (fun H locs hR hS => ?_)
  refine lv_goto (tgt := 2934) hx hb dL_law__2893 rfl ?_
  cases hf
  exact kx ls _ _ (lv_sub hl [0, 1, 2, 3, 4] rfl) hR hS
def f_row40 (x : Nat) (h : XH) : Option (XH) := Option.bind (f_X11_back x h) (fun q1 => Option.bind (f_X12_back x q1.2) (fun q2 => if q1.1 = q2.1 then some q2.2 else none))
set_option maxRecDepth 20000 in
theorem B_row40 {p : Program} {l : Launch} {e : Env} {s : State} {m : MethodId} {args : Array Value} {below : List Frame} {meth : Method} {c : Code} {O : XO} {K : XK} {h h' : XH} {b L i cells slots : Nat} {xs : Nat → Int32} {Q : State → Prop} (C : x_C p s m args meth c O cL_law_ 8 RL (some .boolean)) (hst : l.stackTraces = false) (hX : va_X b L xs s s.heap) (hbl : b < s.heap.size) (hbA : ¬ oA O b) (hL : L ≤ 3072) (hi : i + 6 ≤ L) (hcl : cells + 40 ≤ room_1.cells) (hsl : slots + 900 ≤ room_1.slots) (ls : Array Slot) (H : Heap) (locs : List Loc) (hl : lv_has ls 8 [(0, .ref b), (1, .ref (oX O)), (2, .ref (oX O + 64)), (3, .ref (oX O + 76)), (4, .int (nI i))]) (hR : x_R O K h H) (hS : va_S (oA O) s.heap H locs) (hf : f_row40 (oX O) h = some h') (kx : ∀ (ls : Array Slot) (H : Heap) (locs : List Loc), lv_has ls 8 [(0, .ref b), (1, .ref (oX O)), (2, .ref (oX O + 64)), (3, .ref (oX O + 76)), (4, .int (nI i))] → x_R O K h' H → va_S (oA O) s.heap H locs → W p l e room_1 s m args below meth c H locs (cells) (slots) Q (F0 m 2934 ls [])) : W p l e room_1 s m args below meth c H locs cells slots Q (F0 m 2896 ls []) := by
  have hx := C.1
  have hb := C.2.1
  rw [f_row40] at hf
  refine lv_aload_n hx hb dL_law__2896 rfl (lv_at hl 1 rfl) ?_
  obtain ⟨q1, eq1, hf⟩ := x_bd hf
  refine x_cVi0 C hR hS (S_X11_back  eq1) (x_k hR 0 rfl) (by decide) rfl mf_X11_back tw_598 (Nat.le_of_ble_eq_true rfl) (Nat.le_of_ble_eq_true rfl) hl.1 (Nat.le_of_ble_eq_true rfl) dL_law__2897 ⟨by show cells ≤ room_1.cells; omega, by show slots ≤ room_1.slots; omega⟩ (fun H locs hR hS => ?_)
  refine lv_aload_n hx hb dL_law__2900 rfl (lv_at hl 2 rfl) ?_
  obtain ⟨q2, eq2, hf⟩ := x_bd hf
  refine x_cVi0 C hR hS (S_X12_back  eq2) (x_k hR 64 rfl) (by decide) rfl mf_X12_back tw_1620 (Nat.le_of_ble_eq_true rfl) (Nat.le_of_ble_eq_true rfl) hl.1 (Nat.le_of_ble_eq_true rfl) dL_law__2901 ⟨by show cells ≤ room_1.cells; omega, by show slots ≤ room_1.slots; omega⟩ (fun H locs hR hS => ?_)
  refine lv_icmp_eq (tgt := 2934) hx hb dL_law__2904 rfl (fun hc => ?_) (fun hc => ?_)
  · have hf := x_ip hc hf
    cases hf
    exact kx ls _ _ (lv_sub hl [0, 1, 2, 3, 4] rfl) hR hS
  · have hf := x_in hc hf
    refine lv_iconst (v := 0) hx hb dL_law__2907 rfl ?_
    cases hf
def f_row41 (x : Nat) (h : XH) (a1 : Int32) : Option (XH) := Option.bind (f_X11_count x h a1) (fun v_1 => Option.bind (f_X12_count x h a1) (fun q2 => if v_1 = q2.1 then some q2.2 else none))
set_option maxRecDepth 20000 in
theorem B_row41 {p : Program} {l : Launch} {e : Env} {s : State} {m : MethodId} {args : Array Value} {below : List Frame} {meth : Method} {c : Code} {O : XO} {K : XK} {h h' : XH} {b L i cells slots : Nat} {xs : Nat → Int32} {Q : State → Prop} {a1 : Int32} (C : x_C p s m args meth c O cL_law_ 8 RL (some .boolean)) (hst : l.stackTraces = false) (hX : va_X b L xs s s.heap) (hbl : b < s.heap.size) (hbA : ¬ oA O b) (hL : L ≤ 3072) (hi : i + 6 ≤ L) (ha1 : xs (i + 1) = a1) (hcl : cells + 40 ≤ room_1.cells) (hsl : slots + 900 ≤ room_1.slots) (ls : Array Slot) (H : Heap) (locs : List Loc) (hl : lv_has ls 8 [(0, .ref b), (1, .ref (oX O)), (2, .ref (oX O + 64)), (3, .ref (oX O + 76)), (4, .int (nI i))]) (hR : x_R O K h H) (hS : va_S (oA O) s.heap H locs) (hf : f_row41 (oX O) h a1 = some h') (kx : ∀ (ls : Array Slot) (H : Heap) (locs : List Loc), lv_has ls 8 [(0, .ref b), (1, .ref (oX O)), (2, .ref (oX O + 64)), (3, .ref (oX O + 76)), (4, .int (nI i))] → x_R O K h' H → va_S (oA O) s.heap H locs → W p l e room_1 s m args below meth c H locs (cells) (slots) Q (F0 m 2934 ls [])) : W p l e room_1 s m args below meth c H locs cells slots Q (F0 m 2909 ls []) := by
  have hx := C.1
  have hb := C.2.1
  rw [f_row41] at hf
  refine lv_aload_n hx hb dL_law__2909 rfl (lv_at hl 1 rfl) ?_
  refine lv_aload_n hx hb dL_law__2910 rfl (lv_at hl 0 rfl) ?_
  refine lv_iload hx hb dL_law__2911 (lv_at hl 4 rfl) ?_
  refine lv_iconst (v := 1) hx hb dL_law__2913 rfl ?_
  refine lv_iadd hx hb dL_law__2914 ?_
  refine x_sld C hX hbl hbA hS (i := i) (k := 1) rfl (by omega) hL ha1 dL_law__2915 ?_
  obtain ⟨v_1, ev_1, hf⟩ := x_bd hf
  refine x_cVi1 C hR hS (S_X11_count  ev_1) (x_k hR 0 rfl) (by decide) rfl mf_X11_count tw_602 (Nat.le_of_ble_eq_true rfl) (Nat.le_of_ble_eq_true rfl) hl.1 (Nat.le_of_ble_eq_true rfl) dL_law__2916 ⟨by show cells ≤ room_1.cells; omega, by show slots ≤ room_1.slots; omega⟩ (fun H locs hR hS => ?_)
  refine lv_aload_n hx hb dL_law__2919 rfl (lv_at hl 2 rfl) ?_
  refine lv_aload_n hx hb dL_law__2920 rfl (lv_at hl 0 rfl) ?_
  refine lv_iload hx hb dL_law__2921 (lv_at hl 4 rfl) ?_
  refine lv_iconst (v := 1) hx hb dL_law__2923 rfl ?_
  refine lv_iadd hx hb dL_law__2924 ?_
  refine x_sld C hX hbl hbA hS (i := i) (k := 1) rfl (by omega) hL ha1 dL_law__2925 ?_
  obtain ⟨q2, eq2, hf⟩ := x_bd hf
  refine x_cVi1 C hR hS (S_X12_count  eq2) (x_k hR 64 rfl) (by decide) rfl mf_X12_count tw_2102 (Nat.le_of_ble_eq_true rfl) (Nat.le_of_ble_eq_true rfl) hl.1 (Nat.le_of_ble_eq_true rfl) dL_law__2926 ⟨by show cells ≤ room_1.cells; omega, by show slots ≤ room_1.slots; omega⟩ (fun H locs hR hS => ?_)
  refine lv_icmp_eq (tgt := 2934) hx hb dL_law__2929 rfl (fun hc => ?_) (fun hc => ?_)
  · have hf := x_ip hc hf
    cases hf
    exact kx ls _ _ (lv_sub hl [0, 1, 2, 3, 4] rfl) hR hS
  · have hf := x_in hc hf
    refine lv_iconst (v := 0) hx hb dL_law__2932 rfl ?_
    cases hf
