/-! ===== an array of Packs while it is filled: its first i places hold the Packs ===== -/
def x_rk (h : XH) (b i : Nat) : XH := (h.1, h.2.1, fun c k => if c = b ∧ k < i then some (b + 6 + 3 * k) else h.2.2 c k)
theorem x_rk_0 {h : XH} {b : Nat} : x_rk h b 0 = h := by
  unfold x_rk
  refine Prod.ext rfl (Prod.ext rfl ?_)
  funext c k
  simp
theorem x_rk_s {h : XH} {b i c : Nat} {v : Int32} (hi : v.toNatClampNeg = i) (hc : c = b + 6 + 3 * i) : x_r (x_rk h b i) b v.toNatClampNeg (some c) = x_rk h b (i + 1) := by
  unfold x_rk x_r
  refine Prod.ext rfl (Prod.ext rfl ?_)
  funext d k
  dsimp only
  rw [hi]
  by_cases e : d = b
  · by_cases e2 : k = i
    · rw [if_pos ⟨e, e2⟩, if_pos ⟨e, by omega⟩, hc, e2]
    · rw [if_neg (fun q => e2 q.2)]
      by_cases e3 : k < i
      · rw [if_pos ⟨e, e3⟩, if_pos ⟨e, by omega⟩]
      · rw [if_neg (fun q => e3 q.2), if_neg (fun q => by have := q.2; omega)]
  · rw [if_neg (fun q => e q.1), if_neg (fun q => e q.1), if_neg (fun q => e q.1)]
theorem x_rk_hs {h : XH} {b i c m : Nat} {g : XG} (hb : b < c) : x_hs (x_rk h b i) c m g = x_rk (x_hs h c m g) b i := by
  unfold x_rk x_hs
  refine Prod.ext rfl (Prod.ext rfl ?_)
  funext d k
  dsimp only
  by_cases e : d = b
  · subst e
    rw [if_pos (Or.inl hb), if_pos (Or.inl hb)]
  · rw [if_neg (fun q : d = b ∧ k < i => e q.1), if_neg (fun q : d = b ∧ k < i => e q.1)]
theorem x_rk_ne {h : XH} {b i c : Nat} (hc : c ≠ b) : (x_rk h b i).2.2 c = h.2.2 c := by
  funext k
  simp [x_rk, hc]
theorem x_kl_j {K : XK} {a : Nat} {ks : List (Nat × Nat)} (j : Nat) {q : Nat × Nat} (hj : ks[j]? = some q) : x_kl K a ks (a + j) = q := by
  unfold x_kl
  rw [if_neg (by omega), Nat.add_sub_cancel_left, hj]
theorem x_kl_set {K : XK} {a : Nat} {ks : List (Nat × Nat)} (j : Nat) {q : Nat × Nat} (hj : j < ks.length) : x_ku (x_kl K a ks) (a + j) q = x_kl K a (ks.set j q) := by
  funext b
  unfold x_ku x_kl
  by_cases h : b < a
  · rw [if_neg (by omega), if_pos h, if_pos h]
  · by_cases e : b = a + j
    · subst e
      rw [if_pos rfl, if_neg h, Nat.add_sub_cancel_left, List.getElem?_set_self hj]
    · rw [if_neg e, if_neg h, if_neg h, List.getElem?_set_ne (by omega)]
theorem x_arrV {cI : ClassId} {N : Nat} {f g : Nat → Value} (h : ∀ j, j < N → f j = g j) : arrV cI N f = arrV cI N g := by
  unfold arrV
  have e : (fun j : Fin N => f j.val) = fun j : Fin N => g j.val := funext fun j => h j.val j.isLt
  rw [e]
/-- the array of Packs is full -/
theorem x_Q2.pk {O : XO} {K : XK} {F : Nat → List Value} {h : XH} {H : Heap} {n b : Nat} (hQ : x_Q2 O K F (x_rk h b 8) H n) (hk : K b = (19, 8)) : x_Q2 O (x_ku K b (16, 8)) F h H n := by
  refine hQ.seal (fun c => ?_) (fun c hc hat => ?_)
  · by_cases e : c = b
    · subst e
      rw [x_ku_at, hk]
      simp
    · rw [x_ku_ne e]
  · by_cases e : c = b
    · subst e
      rw [x_c2_packs (by rw [hk]), hk] at hat
      rw [x_c2_old (by rw [x_ku_at]; simp), x_cell_pack (by rw [x_ku_at]), x_ku_at]
      have h1 : H[c]? = some (vp_cell _ _) := hat
      show H[c]? = some (vp_cell _ _)
      rw [h1, vp_cell_q, vp_cell_q]
      congr 1
      refine x_arrV fun j hj => ?_
      have hj : j < 8 := hj
      simp [x_rk, hj]
    · rwa [x_c2_congr (K := K) (F := F) (h := x_rk h b 8) (h' := h) (x_ku_ne e) rfl rfl rfl (x_rk_ne e).symm]
theorem x_Q2.fin {O : XO} {K : XK} {F : Nat → List Value} {D : List Value} {h : XH} {H : Heap} {n a : Nat} {ks : List (Nat × Nat)} (ci : Nat) (hQ : x_Q2 O (x_kl K a ((ci + 20, 0) :: ks)) (x_fu F a D) h H n) (hc : ci < 13) (hD : D = x_fs (oX O) h a ci) : x_Q2 O (x_kl K a ((ci + 1, 0) :: ks)) F h H n := by
  have h1 := hQ.sl (ci := ci) (by rw [x_kl_at]) hc hD
  rwa [x_kl_head] at h1
theorem oi_inst : Cond.instanceMethod Lib.objectInit ∈ TB := TB_of (tin_1 (List.mem_of_getElem? (i := 36) (by decide +kernel))) rfl
theorem oi_code : Cond.code Lib.objectInit ⟨#[0xb1]⟩ 1 none ∈ TB := TB_of (tin_1 (List.mem_of_getElem? (i := 37) (by decide +kernel))) rfl
theorem ac_int : Cond.arrayClass (newarray.typeOf .int) ∈ TB := TB_of (tin_1 (List.mem_of_getElem? (i := 83) (by decide +kernel))) rfl
theorem ac_byte : Cond.arrayClass (newarray.typeOf .byte) ∈ TB := TB_of (tin_3 (List.mem_of_getElem? (i := 195) (by decide +kernel))) rfl
theorem ac_long : Cond.arrayClass (newarray.typeOf .long) ∈ TB := TB_of (tin_9 (List.mem_of_getElem? (i := 81) (by decide +kernel))) rfl
def g_4 : XG := (fun j k => if j = 0 ∧ k = 2 then 1 else 0, fun _ _ => 0)
theorem oi_4 : Cond.methodLink RX4 1 Lib.objectInit ∈ TB := TB_of (tin_1 (List.mem_of_getElem? (i := 104) (by decide +kernel))) rfl
theorem kc_4 : Cond.code yX4_init cX4_init 1 none ∈ TB := TB_of (tin_1 (List.mem_of_getElem? (i := 103) (by decide +kernel))) rfl
theorem ki_4 : Cond.instanceMethod yX4_init ∈ TB := TB_of (tin_1 (List.mem_of_getElem? (i := 102) (by decide +kernel))) rfl
theorem mk_4 : x_MK yX4_init cX4_init 1 0 := ⟨kc_4, ki_4, tw_110, by decide, by decide, by decide +kernel, rfl⟩
set_option maxRecDepth 20000 in
theorem S_X4_init {l : Launch} {O : XO} {K : XK} {F : Nat → List Value} {h : XH} {a : Nat} : x_MI l O yX4_init cX4_init 1 none 1 40 0 0 (x_ku K a (24, 0)) (x_fu F a [.int 0, .int 0, .int 0, .int 0, .int 0, .int 0, .int 0, .int 0]) h (a + 1) [.ref a] none (x_kl K a [(5, 0)]) F (x_hs h a 1 g_4) (a + 1) := by
  refine x_enterI (by decide) (Nat.le_of_ble_eq_true rfl) (fun p e s m args below meth c C hn hQ ls hl => ?_)
  have hS : va_S (oA O) s.heap s.heap [] := va_S.rf
  have hx := C.1
  have hb := C.2.1
  have hz0 := hQ.1
  have hl : lv_has ls 1 [(0, .ref a)] := hl
  have hQ := hQ.at (a := a) (ci := 4) (by rw [x_ku_at]) g_4
  rw [x_kl_one] at hQ
  refine lv_aload_n hx hb dX4_init_0 rfl (lv_at hl 0 rfl) ?_
  refine W.objInit hx hb C.2.2.2.1 (C.2.2.2.2.1 _ oi_4) (C.2.2.2.2.1 _ oi_inst) (C.2.2.2.2.1 _ oi_code) rfl (by rw [C.2.2.1]; exact hl.1) rfl dX4_init_1 (Nat.le_of_ble_eq_true rfl) (Nat.le_of_ble_eq_true rfl) ?_
  refine lv_aload_n hx hb dX4_init_4 rfl (lv_at hl 0 rfl) ?_
  refine lv_iconst (v := 0) hx hb dX4_init_5 rfl ?_
  refine n_put C hQ hS (ci := 4) rfl inT_4 tyX4 tyX4_ok nmX4 0 (by decide) tw_210 (Or.inl rfl) rfl rfl (Nat.le_of_ble_eq_true rfl) dX4_init_6 (fun H locs hQ hS => ?_)
  have hQ : x_Q2 O (x_kl K a [(24, 0)]) (x_fu F a [.int 0, .int 0, .int 0, .int 0, .int 0, .int 0, .int 0, .int 0]) (x_hs h a 1 g_4) H (a + 1) := hQ
  refine lv_aload_n hx hb dX4_init_9 rfl (lv_at hl 0 rfl) ?_
  refine lv_iconst (v := 0) hx hb dX4_init_10 rfl ?_
  refine n_put C hQ hS (ci := 4) rfl inT_4 tyX4 tyX4_ok nmX4 1 (by decide) tw_214 (Or.inl rfl) rfl rfl (Nat.le_of_ble_eq_true rfl) dX4_init_11 (fun H locs hQ hS => ?_)
  have hQ : x_Q2 O (x_kl K a [(24, 0)]) (x_fu F a [.int 0, .int 0, .int 0, .int 0, .int 0, .int 0, .int 0, .int 0]) (x_hs h a 1 g_4) H (a + 1) := hQ
  refine lv_aload_n hx hb dX4_init_14 rfl (lv_at hl 0 rfl) ?_
  refine lv_iconst (v := 1) hx hb dX4_init_15 rfl ?_
  refine n_put C hQ hS (ci := 4) rfl inT_4 tyX4 tyX4_ok nmX4 2 (by decide) tw_219 (Or.inl rfl) rfl rfl (Nat.le_of_ble_eq_true rfl) dX4_init_16 (fun H locs hQ hS => ?_)
  have hQ : x_Q2 O (x_kl K a [(24, 0)]) (x_fu F a [.int 0, .int 0, .int 1, .int 0, .int 0, .int 0, .int 0, .int 0]) (x_hs h a 1 g_4) H (a + 1) := hQ
  refine lv_aload_n hx hb dX4_init_19 rfl (lv_at hl 0 rfl) ?_
  refine lv_iconst (v := 0) hx hb dX4_init_20 rfl ?_
  refine n_put C hQ hS (ci := 4) rfl inT_4 tyX4 tyX4_ok nmX4 3 (by decide) tw_222 (Or.inl rfl) rfl rfl (Nat.le_of_ble_eq_true rfl) dX4_init_21 (fun H locs hQ hS => ?_)
  have hQ : x_Q2 O (x_kl K a [(24, 0)]) (x_fu F a [.int 0, .int 0, .int 1, .int 0, .int 0, .int 0, .int 0, .int 0]) (x_hs h a 1 g_4) H (a + 1) := hQ
  refine lv_aload_n hx hb dX4_init_24 rfl (lv_at hl 0 rfl) ?_
  refine lv_iconst (v := 0) hx hb dX4_init_25 rfl ?_
  refine n_put C hQ hS (ci := 4) rfl inT_4 tyX4 tyX4_ok nmX4 4 (by decide) tw_224 (Or.inl rfl) rfl rfl (Nat.le_of_ble_eq_true rfl) dX4_init_26 (fun H locs hQ hS => ?_)
  have hQ : x_Q2 O (x_kl K a [(24, 0)]) (x_fu F a [.int 0, .int 0, .int 1, .int 0, .int 0, .int 0, .int 0, .int 0]) (x_hs h a 1 g_4) H (a + 1) := hQ
  refine lv_aload_n hx hb dX4_init_29 rfl (lv_at hl 0 rfl) ?_
  refine lv_iconst (v := 0) hx hb dX4_init_30 rfl ?_
  refine n_put C hQ hS (ci := 4) rfl inT_4 tyX4 tyX4_ok nmX4 5 (by decide) tw_227 (Or.inl rfl) rfl rfl (Nat.le_of_ble_eq_true rfl) dX4_init_31 (fun H locs hQ hS => ?_)
  have hQ : x_Q2 O (x_kl K a [(24, 0)]) (x_fu F a [.int 0, .int 0, .int 1, .int 0, .int 0, .int 0, .int 0, .int 0]) (x_hs h a 1 g_4) H (a + 1) := hQ
  refine lv_aload_n hx hb dX4_init_34 rfl (lv_at hl 0 rfl) ?_
  refine lv_iconst (v := 0) hx hb dX4_init_35 rfl ?_
  refine n_put C hQ hS (ci := 4) rfl inT_4 tyX4 tyX4_ok nmX4 6 (by decide) tw_228 (Or.inl rfl) rfl rfl (Nat.le_of_ble_eq_true rfl) dX4_init_36 (fun H locs hQ hS => ?_)
  have hQ : x_Q2 O (x_kl K a [(24, 0)]) (x_fu F a [.int 0, .int 0, .int 1, .int 0, .int 0, .int 0, .int 0, .int 0]) (x_hs h a 1 g_4) H (a + 1) := hQ
  refine lv_aload_n hx hb dX4_init_39 rfl (lv_at hl 0 rfl) ?_
  refine lv_iconst (v := 0) hx hb dX4_init_40 rfl ?_
  refine n_put C hQ hS (ci := 4) rfl inT_4 tyX4 tyX4_ok nmX4 7 (by decide) tw_229 (Or.inl rfl) rfl rfl (Nat.le_of_ble_eq_true rfl) dX4_init_41 (fun H locs hQ hS => ?_)
  have hQ : x_Q2 O (x_kl K a [(24, 0)]) (x_fu F a [.int 0, .int 0, .int 1, .int 0, .int 0, .int 0, .int 0, .int 0]) (x_hs h a 1 g_4) H (a + 1) := hQ
  exact r_vret C (hQ.fin 4 (by decide) (by simp [x_fs, x_hs, va_rf, g_4, show ¬ (a + 1 ≤ a) by omega])) hS (Nat.le_of_ble_eq_true rfl) (Nat.le_of_ble_eq_true rfl) dX4_init_44
def g_2 : XG := (fun j k => if j = 1 ∧ k = 2 then 1 else 0, fun _ _ => 0)
theorem oi_2 : Cond.methodLink RX2 3 Lib.objectInit ∈ TB := TB_of (tin_1 (List.mem_of_getElem? (i := 98) (by decide +kernel))) rfl
theorem kc_2 : Cond.code yX2_init cX2_init 1 none ∈ TB := TB_of (tin_1 (List.mem_of_getElem? (i := 97) (by decide +kernel))) rfl
theorem ki_2 : Cond.instanceMethod yX2_init ∈ TB := TB_of (tin_1 (List.mem_of_getElem? (i := 96) (by decide +kernel))) rfl
theorem mk_2 : x_MK yX2_init cX2_init 1 0 := ⟨kc_2, ki_2, tw_109, by decide, by decide, by decide +kernel, rfl⟩
set_option maxRecDepth 20000 in
theorem S_X2_init {l : Launch} {O : XO} {K : XK} {F : Nat → List Value} {h : XH} {a : Nat} : x_MI l O yX2_init cX2_init 1 none 2 60 2 60 (x_ku K a (22, 0)) (x_fu F a [.int 0, .int 0, .int 0, .int 0, .null, .null]) h (a + 1) [.ref a] none (x_kl K a [(3, 0), (5, 0), (14, 52)]) F (x_hs h a 3 g_2) (a + 3) := by
  refine x_enterI (by decide) (Nat.le_of_ble_eq_true rfl) (fun p e s m args below meth c C hn hQ ls hl => ?_)
  have hS : va_S (oA O) s.heap s.heap [] := va_S.rf
  have hx := C.1
  have hb := C.2.1
  have hz0 := hQ.1
  have hl : lv_has ls 1 [(0, .ref a)] := hl
  have hQ := hQ.at (a := a) (ci := 2) (by rw [x_ku_at]) g_2
  rw [x_kl_one] at hQ
  refine lv_aload_n hx hb dX2_init_0 rfl (lv_at hl 0 rfl) ?_
  refine W.objInit hx hb C.2.2.2.1 (C.2.2.2.2.1 _ oi_2) (C.2.2.2.2.1 _ oi_inst) (C.2.2.2.2.1 _ oi_code) rfl (by rw [C.2.2.1]; exact hl.1) rfl dX2_init_1 (Nat.le_of_ble_eq_true rfl) (Nat.le_of_ble_eq_true rfl) ?_
  refine lv_aload_n hx hb dX2_init_4 rfl (lv_at hl 0 rfl) ?_
  refine lv_iconst (v := 0) hx hb dX2_init_5 rfl ?_
  refine n_put C hQ hS (ci := 2) rfl inT_2 tyX2 tyX2_ok nmX2 0 (by decide) tw_250 (Or.inl rfl) rfl rfl (Nat.le_of_ble_eq_true rfl) dX2_init_6 (fun H locs hQ hS => ?_)
  have hQ : x_Q2 O (x_kl K a [(22, 0)]) (x_fu F a [.int 0, .int 0, .int 0, .int 0, .null, .null]) (x_hs h a 1 g_2) H (a + 1) := hQ
  refine lv_aload_n hx hb dX2_init_9 rfl (lv_at hl 0 rfl) ?_
  refine lv_iconst (v := 0) hx hb dX2_init_10 rfl ?_
  refine n_put C hQ hS (ci := 2) rfl inT_2 tyX2 tyX2_ok nmX2 1 (by decide) tw_251 (Or.inl rfl) rfl rfl (Nat.le_of_ble_eq_true rfl) dX2_init_11 (fun H locs hQ hS => ?_)
  have hQ : x_Q2 O (x_kl K a [(22, 0)]) (x_fu F a [.int 0, .int 0, .int 0, .int 0, .null, .null]) (x_hs h a 1 g_2) H (a + 1) := hQ
  refine lv_aload_n hx hb dX2_init_14 rfl (lv_at hl 0 rfl) ?_
  refine lv_iconst (v := 0) hx hb dX2_init_15 rfl ?_
  refine n_put C hQ hS (ci := 2) rfl inT_2 tyX2 tyX2_ok nmX2 2 (by decide) tw_252 (Or.inl rfl) rfl rfl (Nat.le_of_ble_eq_true rfl) dX2_init_16 (fun H locs hQ hS => ?_)
  have hQ : x_Q2 O (x_kl K a [(22, 0)]) (x_fu F a [.int 0, .int 0, .int 0, .int 0, .null, .null]) (x_hs h a 1 g_2) H (a + 1) := hQ
  refine lv_aload_n hx hb dX2_init_19 rfl (lv_at hl 0 rfl) ?_
  refine lv_iconst (v := 0) hx hb dX2_init_20 rfl ?_
  refine n_put C hQ hS (ci := 2) rfl inT_2 tyX2 tyX2_ok nmX2 3 (by decide) tw_257 (Or.inl rfl) rfl rfl (Nat.le_of_ble_eq_true rfl) dX2_init_21 (fun H locs hQ hS => ?_)
  have hQ : x_Q2 O (x_kl K a [(22, 0)]) (x_fu F a [.int 0, .int 0, .int 0, .int 0, .null, .null]) (x_hs h a 1 g_2) H (a + 1) := hQ
  refine lv_aload_n hx hb dX2_init_24 rfl (lv_at hl 0 rfl) ?_
  refine r_new C hQ hS (ci := 4) rfl inT_4 tyX4 tyX4_ok tw_204 tw_205 tw_110 (fs := [.int 0, .int 0, .int 0, .int 0, .int 0, .int 0, .int 0, .int 0]) (by decide) (Nat.le_of_ble_eq_true rfl) (Nat.le_of_ble_eq_true rfl) dX2_init_25 (fun H hQ hS => ?_)
  refine lv_dup hx hb dX2_init_28 rfl ?_
  refine r_init C hQ hS (S_X4_init (a := a + 1)) mk_4 (host := "MemoryHouse") (As := []) (Or.inr (tin_1 (List.mem_of_getElem? (i := 101) (by decide +kernel)))) (Nat.le_of_ble_eq_true rfl) (Nat.le_of_ble_eq_true rfl) rfl hl.1 (Nat.le_of_ble_eq_true rfl) dX2_init_29 ⟨Nat.le_of_ble_eq_true rfl, Nat.le_of_ble_eq_true rfl⟩ rfl (fun H locs hQ hS => ?_)
  rw [x_kl_app (m := 1) rfl, x_hs_app (g := g_2) (by intro j hj k; rcases (show j = 0 by omega) with rfl <;> simp [g_2, g_4])] at hQ
  have hQ : x_Q2 O (x_kl K a [(22, 0), (5, 0)]) (x_fu F a [.int 0, .int 0, .int 0, .int 0, .null, .null]) (x_hs h a 2 g_2) H (a + 2) := hQ
  refine n_put C hQ hS (ci := 2) rfl inT_2 tyX2 tyX2_ok nmX2 4 (by decide) tw_262 (Or.inr ⟨rfl, hn, rfl⟩) rfl rfl (Nat.le_of_ble_eq_true rfl) dX2_init_32 (fun H locs hQ hS => ?_)
  have hQ : x_Q2 O (x_kl K a [(22, 0), (5, 0)]) (x_fu F a [.int 0, .int 0, .int 0, .int 0, .ref (a + 1), .null]) (x_hs h a 2 g_2) H (a + 2) := hQ
  refine lv_aload_n hx hb dX2_init_35 rfl (lv_at hl 0 rfl) ?_
  refine lv_bipush (v := 52) hx hb dX2_init_36 rfl ?_
  refine n_newa C hQ hS rfl (by intro k; simp [g_2]) 14 (Or.inl ⟨rfl, rfl⟩) ac_int (by decide) (N := 52) (by decide) (by decide) (Nat.le_of_ble_eq_true rfl) (Nat.le_of_ble_eq_true rfl) dX2_init_38 (fun H hQ hS => ?_)
  have hQ : x_Q2 O (x_kl K a [(22, 0), (5, 0), (14, 52)]) (x_fu F a [.int 0, .int 0, .int 0, .int 0, .ref (a + 1), .null]) (x_hs h a 3 g_2) H (a + 3) := hQ
  refine n_put C hQ hS (ci := 2) rfl inT_2 tyX2 tyX2_ok nmX2 5 (by decide) tw_267 (Or.inr ⟨rfl, hn, rfl⟩) rfl rfl (Nat.le_of_ble_eq_true rfl) dX2_init_40 (fun H locs hQ hS => ?_)
  have hQ : x_Q2 O (x_kl K a [(22, 0), (5, 0), (14, 52)]) (x_fu F a [.int 0, .int 0, .int 0, .int 0, .ref (a + 1), .ref (a + 2)]) (x_hs h a 3 g_2) H (a + 3) := hQ
  exact r_vret C (hQ.fin 2 (by decide) (by simp [x_fs, x_hs, va_rf, g_2, show ¬ (a + 3 ≤ a) by omega])) hS (Nat.le_of_ble_eq_true rfl) (Nat.le_of_ble_eq_true rfl) dX2_init_43
def g_9 : XG := (fun _ _ => 0, fun _ _ => 0)
theorem oi_9 : Cond.methodLink RX9 3 Lib.objectInit ∈ TB := TB_of (tin_2 (List.mem_of_getElem? (i := 28) (by decide +kernel))) rfl
theorem kc_9 : Cond.code yX9_init cX9_init 1 none ∈ TB := TB_of (tin_2 (List.mem_of_getElem? (i := 27) (by decide +kernel))) rfl
theorem ki_9 : Cond.instanceMethod yX9_init ∈ TB := TB_of (tin_2 (List.mem_of_getElem? (i := 26) (by decide +kernel))) rfl
theorem mk_9 : x_MK yX9_init cX9_init 1 0 := ⟨kc_9, ki_9, tw_111, by decide, by decide, by decide +kernel, rfl⟩
set_option maxRecDepth 20000 in
theorem S_X9_init {l : Launch} {O : XO} {K : XK} {F : Nat → List Value} {h : XH} {a : Nat} : x_MI l O yX9_init cX9_init 1 none 1 40 2 30 (x_ku K a (29, 0)) (x_fu F a [.null, .null]) h (a + 1) [.ref a] none (x_kl K a [(10, 0), (14, 10), (14, 20)]) F (x_hs h a 3 g_9) (a + 3) := by
  refine x_enterI (by decide) (Nat.le_of_ble_eq_true rfl) (fun p e s m args below meth c C hn hQ ls hl => ?_)
  have hS : va_S (oA O) s.heap s.heap [] := va_S.rf
  have hx := C.1
  have hb := C.2.1
  have hz0 := hQ.1
  have hl : lv_has ls 1 [(0, .ref a)] := hl
  have hQ := hQ.at (a := a) (ci := 9) (by rw [x_ku_at]) g_9
  rw [x_kl_one] at hQ
  refine lv_aload_n hx hb dX9_init_0 rfl (lv_at hl 0 rfl) ?_
  refine W.objInit hx hb C.2.2.2.1 (C.2.2.2.2.1 _ oi_9) (C.2.2.2.2.1 _ oi_inst) (C.2.2.2.2.1 _ oi_code) rfl (by rw [C.2.2.1]; exact hl.1) rfl dX9_init_1 (Nat.le_of_ble_eq_true rfl) (Nat.le_of_ble_eq_true rfl) ?_
  refine lv_aload_n hx hb dX9_init_4 rfl (lv_at hl 0 rfl) ?_
  refine lv_bipush (v := 10) hx hb dX9_init_5 rfl ?_
  refine n_newa C hQ hS rfl (by intro k; simp [g_9]) 14 (Or.inl ⟨rfl, rfl⟩) ac_int (by decide) (N := 10) (by decide) (by decide) (Nat.le_of_ble_eq_true rfl) (Nat.le_of_ble_eq_true rfl) dX9_init_7 (fun H hQ hS => ?_)
  have hQ : x_Q2 O (x_kl K a [(29, 0), (14, 10)]) (x_fu F a [.null, .null]) (x_hs h a 2 g_9) H (a + 2) := hQ
  refine n_put C hQ hS (ci := 9) rfl inT_9 tyX9 tyX9_ok nmX9 0 (by decide) tw_374 (Or.inr ⟨rfl, hn, rfl⟩) rfl rfl (Nat.le_of_ble_eq_true rfl) dX9_init_9 (fun H locs hQ hS => ?_)
  have hQ : x_Q2 O (x_kl K a [(29, 0), (14, 10)]) (x_fu F a [.ref (a + 1), .null]) (x_hs h a 2 g_9) H (a + 2) := hQ
  refine lv_aload_n hx hb dX9_init_12 rfl (lv_at hl 0 rfl) ?_
  refine lv_bipush (v := 20) hx hb dX9_init_13 rfl ?_
  refine n_newa C hQ hS rfl (by intro k; simp [g_9]) 14 (Or.inl ⟨rfl, rfl⟩) ac_int (by decide) (N := 20) (by decide) (by decide) (Nat.le_of_ble_eq_true rfl) (Nat.le_of_ble_eq_true rfl) dX9_init_15 (fun H hQ hS => ?_)
  have hQ : x_Q2 O (x_kl K a [(29, 0), (14, 10), (14, 20)]) (x_fu F a [.ref (a + 1), .null]) (x_hs h a 3 g_9) H (a + 3) := hQ
  refine n_put C hQ hS (ci := 9) rfl inT_9 tyX9 tyX9_ok nmX9 1 (by decide) tw_376 (Or.inr ⟨rfl, hn, rfl⟩) rfl rfl (Nat.le_of_ble_eq_true rfl) dX9_init_17 (fun H locs hQ hS => ?_)
  have hQ : x_Q2 O (x_kl K a [(29, 0), (14, 10), (14, 20)]) (x_fu F a [.ref (a + 1), .ref (a + 2)]) (x_hs h a 3 g_9) H (a + 3) := hQ
  exact r_vret C (hQ.fin 9 (by decide) (by simp [x_fs, x_hs, va_rf, g_9, show ¬ (a + 3 ≤ a) by omega])) hS (Nat.le_of_ble_eq_true rfl) (Nat.le_of_ble_eq_true rfl) dX9_init_20
def g_5 : XG := (fun j k => if j = 1 ∧ k = 2 then 1 else 0, fun _ _ => 0)
theorem oi_5 : Cond.methodLink RX5 3 Lib.objectInit ∈ TB := TB_of (tin_2 (List.mem_of_getElem? (i := 42) (by decide +kernel))) rfl
theorem kc_5 : Cond.code yX5_init cX5_init 3 none ∈ TB := TB_of (tin_2 (List.mem_of_getElem? (i := 41) (by decide +kernel))) rfl
theorem ki_5 : Cond.instanceMethod yX5_init ∈ TB := TB_of (tin_2 (List.mem_of_getElem? (i := 40) (by decide +kernel))) rfl
theorem mk_5 : x_MK yX5_init cX5_init 3 2 := ⟨kc_5, ki_5, tw_112, by decide, by decide, by decide +kernel, rfl⟩
set_option maxRecDepth 20000 in
theorem S_X5_init {l : Launch} {O : XO} {K : XK} {F : Nat → List Value} {h : XH} {a : Nat} : x_MI l O yX5_init cX5_init 3 none 2 60 2 57 (x_ku K a (25, 0)) (x_fu F a [.null, .null, .null, .null]) h (a + 1) [.ref a, .ref (oX O + 9), .ref (oX O + 43)] none (x_kl K a [(6, 0), (5, 0), (14, 49)]) F (x_hs h a 3 g_5) (a + 3) := by
  refine x_enterI (by decide) (Nat.le_of_ble_eq_true rfl) (fun p e s m args below meth c C hn hQ ls hl => ?_)
  have hS : va_S (oA O) s.heap s.heap [] := va_S.rf
  have hx := C.1
  have hb := C.2.1
  have hz0 := hQ.1
  have hl : lv_has ls 3 [(0, .ref a), (1, .ref (oX O + 9)), (2, .ref (oX O + 43))] := hl
  have hQ := hQ.at (a := a) (ci := 5) (by rw [x_ku_at]) g_5
  rw [x_kl_one] at hQ
  refine lv_aload_n hx hb dX5_init_0 rfl (lv_at hl 0 rfl) ?_
  refine W.objInit hx hb C.2.2.2.1 (C.2.2.2.2.1 _ oi_5) (C.2.2.2.2.1 _ oi_inst) (C.2.2.2.2.1 _ oi_code) rfl (by rw [C.2.2.1]; exact hl.1) rfl dX5_init_1 (Nat.le_of_ble_eq_true rfl) (Nat.le_of_ble_eq_true rfl) ?_
  refine lv_aload_n hx hb dX5_init_4 rfl (lv_at hl 0 rfl) ?_
  refine r_new C hQ hS (ci := 4) rfl inT_4 tyX4 tyX4_ok tw_388 tw_205 tw_110 (fs := [.int 0, .int 0, .int 0, .int 0, .int 0, .int 0, .int 0, .int 0]) (by decide) (Nat.le_of_ble_eq_true rfl) (Nat.le_of_ble_eq_true rfl) dX5_init_5 (fun H hQ hS => ?_)
  refine lv_dup hx hb dX5_init_8 rfl ?_
  refine r_init C hQ hS (S_X4_init (a := a + 1)) mk_4 (host := "MemoryHouse") (As := []) (Or.inr (tin_2 (List.mem_of_getElem? (i := 44) (by decide +kernel)))) (Nat.le_of_ble_eq_true rfl) (Nat.le_of_ble_eq_true rfl) rfl hl.1 (Nat.le_of_ble_eq_true rfl) dX5_init_9 ⟨Nat.le_of_ble_eq_true rfl, Nat.le_of_ble_eq_true rfl⟩ rfl (fun H locs hQ hS => ?_)
  rw [x_kl_app (m := 1) rfl, x_hs_app (g := g_5) (by intro j hj k; rcases (show j = 0 by omega) with rfl <;> simp [g_5, g_4])] at hQ
  have hQ : x_Q2 O (x_kl K a [(25, 0), (5, 0)]) (x_fu F a [.null, .null, .null, .null]) (x_hs h a 2 g_5) H (a + 2) := hQ
  refine n_put C hQ hS (ci := 5) rfl inT_5 tyX5 tyX5_ok nmX5 2 (by decide) tw_392 (Or.inr ⟨rfl, hn, rfl⟩) rfl rfl (Nat.le_of_ble_eq_true rfl) dX5_init_12 (fun H locs hQ hS => ?_)
  have hQ : x_Q2 O (x_kl K a [(25, 0), (5, 0)]) (x_fu F a [.null, .null, .ref (a + 1), .null]) (x_hs h a 2 g_5) H (a + 2) := hQ
  refine lv_aload_n hx hb dX5_init_15 rfl (lv_at hl 0 rfl) ?_
  refine lv_bipush (v := 49) hx hb dX5_init_16 rfl ?_
  refine n_newa C hQ hS rfl (by intro k; simp [g_5]) 14 (Or.inl ⟨rfl, rfl⟩) ac_int (by decide) (N := 49) (by decide) (by decide) (Nat.le_of_ble_eq_true rfl) (Nat.le_of_ble_eq_true rfl) dX5_init_18 (fun H hQ hS => ?_)
  have hQ : x_Q2 O (x_kl K a [(25, 0), (5, 0), (14, 49)]) (x_fu F a [.null, .null, .ref (a + 1), .null]) (x_hs h a 3 g_5) H (a + 3) := hQ
  refine n_put C hQ hS (ci := 5) rfl inT_5 tyX5 tyX5_ok nmX5 3 (by decide) tw_393 (Or.inr ⟨rfl, hn, rfl⟩) rfl rfl (Nat.le_of_ble_eq_true rfl) dX5_init_20 (fun H locs hQ hS => ?_)
  have hQ : x_Q2 O (x_kl K a [(25, 0), (5, 0), (14, 49)]) (x_fu F a [.null, .null, .ref (a + 1), .ref (a + 2)]) (x_hs h a 3 g_5) H (a + 3) := hQ
  refine lv_aload_n hx hb dX5_init_23 rfl (lv_at hl 0 rfl) ?_
  refine lv_aload_n hx hb dX5_init_24 rfl (lv_at hl 1 rfl) ?_
  refine n_put C hQ hS (ci := 5) rfl inT_5 tyX5 tyX5_ok nmX5 0 (by decide) tw_390 (Or.inr ⟨rfl, hn, rfl⟩) rfl rfl (Nat.le_of_ble_eq_true rfl) dX5_init_25 (fun H locs hQ hS => ?_)
  have hQ : x_Q2 O (x_kl K a [(25, 0), (5, 0), (14, 49)]) (x_fu F a [.ref (oX O + 9), .null, .ref (a + 1), .ref (a + 2)]) (x_hs h a 3 g_5) H (a + 3) := hQ
  refine lv_aload_n hx hb dX5_init_28 rfl (lv_at hl 0 rfl) ?_
  refine lv_aload_n hx hb dX5_init_29 rfl (lv_at hl 2 rfl) ?_
  refine n_put C hQ hS (ci := 5) rfl inT_5 tyX5 tyX5_ok nmX5 1 (by decide) tw_391 (Or.inr ⟨rfl, hn, rfl⟩) rfl rfl (Nat.le_of_ble_eq_true rfl) dX5_init_30 (fun H locs hQ hS => ?_)
  have hQ : x_Q2 O (x_kl K a [(25, 0), (5, 0), (14, 49)]) (x_fu F a [.ref (oX O + 9), .ref (oX O + 43), .ref (a + 1), .ref (a + 2)]) (x_hs h a 3 g_5) H (a + 3) := hQ
  exact r_vret C (hQ.fin 5 (by decide) (by simp [x_fs, x_hs, va_rf, g_5, show ¬ (a + 3 ≤ a) by omega])) hS (Nat.le_of_ble_eq_true rfl) (Nat.le_of_ble_eq_true rfl) dX5_init_33
def g_6 : XG := (fun _ _ => 0, fun _ _ => 0)
theorem oi_6 : Cond.methodLink RX6 3 Lib.objectInit ∈ TB := TB_of (tin_2 (List.mem_of_getElem? (i := 63) (by decide +kernel))) rfl
theorem kc_6 : Cond.code yX6_init cX6_init 2 none ∈ TB := TB_of (tin_2 (List.mem_of_getElem? (i := 62) (by decide +kernel))) rfl
theorem ki_6 : Cond.instanceMethod yX6_init ∈ TB := TB_of (tin_2 (List.mem_of_getElem? (i := 61) (by decide +kernel))) rfl
theorem mk_6 : x_MK yX6_init cX6_init 2 1 := ⟨kc_6, ki_6, tw_113, by decide, by decide, by decide +kernel, rfl⟩
set_option maxRecDepth 20000 in
theorem S_X6_init {l : Launch} {O : XO} {K : XK} {F : Nat → List Value} {h : XH} {a : Nat} : x_MI l O yX6_init cX6_init 2 none 1 40 1 6 (x_ku K a (26, 0)) (x_fu F a [.null, .null]) h (a + 1) [.ref a, .ref (oX O + 9)] none (x_kl K a [(7, 0), (14, 6)]) F (x_hs h a 2 g_6) (a + 2) := by
  refine x_enterI (by decide) (Nat.le_of_ble_eq_true rfl) (fun p e s m args below meth c C hn hQ ls hl => ?_)
  have hS : va_S (oA O) s.heap s.heap [] := va_S.rf
  have hx := C.1
  have hb := C.2.1
  have hz0 := hQ.1
  have hl : lv_has ls 2 [(0, .ref a), (1, .ref (oX O + 9))] := hl
  have hQ := hQ.at (a := a) (ci := 6) (by rw [x_ku_at]) g_6
  rw [x_kl_one] at hQ
  refine lv_aload_n hx hb dX6_init_0 rfl (lv_at hl 0 rfl) ?_
  refine W.objInit hx hb C.2.2.2.1 (C.2.2.2.2.1 _ oi_6) (C.2.2.2.2.1 _ oi_inst) (C.2.2.2.2.1 _ oi_code) rfl (by rw [C.2.2.1]; exact hl.1) rfl dX6_init_1 (Nat.le_of_ble_eq_true rfl) (Nat.le_of_ble_eq_true rfl) ?_
  refine lv_aload_n hx hb dX6_init_4 rfl (lv_at hl 0 rfl) ?_
  refine lv_bipush (v := 6) hx hb dX6_init_5 rfl ?_
  refine n_newa C hQ hS rfl (by intro k; simp [g_6]) 14 (Or.inl ⟨rfl, rfl⟩) ac_int (by decide) (N := 6) (by decide) (by decide) (Nat.le_of_ble_eq_true rfl) (Nat.le_of_ble_eq_true rfl) dX6_init_7 (fun H hQ hS => ?_)
  have hQ : x_Q2 O (x_kl K a [(26, 0), (14, 6)]) (x_fu F a [.null, .null]) (x_hs h a 2 g_6) H (a + 2) := hQ
  refine n_put C hQ hS (ci := 6) rfl inT_6 tyX6 tyX6_ok nmX6 1 (by decide) tw_410 (Or.inr ⟨rfl, hn, rfl⟩) rfl rfl (Nat.le_of_ble_eq_true rfl) dX6_init_9 (fun H locs hQ hS => ?_)
  have hQ : x_Q2 O (x_kl K a [(26, 0), (14, 6)]) (x_fu F a [.null, .ref (a + 1)]) (x_hs h a 2 g_6) H (a + 2) := hQ
  refine lv_aload_n hx hb dX6_init_12 rfl (lv_at hl 0 rfl) ?_
  refine lv_aload_n hx hb dX6_init_13 rfl (lv_at hl 1 rfl) ?_
  refine n_put C hQ hS (ci := 6) rfl inT_6 tyX6 tyX6_ok nmX6 0 (by decide) tw_409 (Or.inr ⟨rfl, hn, rfl⟩) rfl rfl (Nat.le_of_ble_eq_true rfl) dX6_init_14 (fun H locs hQ hS => ?_)
  have hQ : x_Q2 O (x_kl K a [(26, 0), (14, 6)]) (x_fu F a [.ref (oX O + 9), .ref (a + 1)]) (x_hs h a 2 g_6) H (a + 2) := hQ
  exact r_vret C (hQ.fin 6 (by decide) (by simp [x_fs, x_hs, va_rf, g_6, show ¬ (a + 2 ≤ a) by omega])) hS (Nat.le_of_ble_eq_true rfl) (Nat.le_of_ble_eq_true rfl) dX6_init_17
def g_1 : XG := (fun _ _ => 0, fun j k => if j = 0 ∧ k = 5 then 1 else 0)
theorem oi_1 : Cond.methodLink RX1 3 Lib.objectInit ∈ TB := TB_of (tin_2 (List.mem_of_getElem? (i := 76) (by decide +kernel))) rfl
theorem kc_1 : Cond.code yX1_init cX1_init 2 none ∈ TB := TB_of (tin_2 (List.mem_of_getElem? (i := 75) (by decide +kernel))) rfl
theorem ki_1 : Cond.instanceMethod yX1_init ∈ TB := TB_of (tin_2 (List.mem_of_getElem? (i := 74) (by decide +kernel))) rfl
theorem mk_1 : x_MK yX1_init cX1_init 2 1 := ⟨kc_1, ki_1, tw_114, by decide, by decide, by decide +kernel, rfl⟩
set_option maxRecDepth 20000 in
theorem S_X1_init {l : Launch} {O : XO} {K : XK} {F : Nat → List Value} {h : XH} {a : Nat} : x_MI l O yX1_init cX1_init 2 none 1 40 2 11 (x_ku K a (21, 0)) (x_fu F a [.null, .null, .null, .int 0, .long 0, .long 0]) h (a + 1) [.ref a, .ref (oX O + 43)] none (x_kl K a [(2, 0), (14, 5), (14, 6)]) F (x_hs h a 3 g_1) (a + 3) := by
  refine x_enterI (by decide) (Nat.le_of_ble_eq_true rfl) (fun p e s m args below meth c C hn hQ ls hl => ?_)
  have hS : va_S (oA O) s.heap s.heap [] := va_S.rf
  have hx := C.1
  have hb := C.2.1
  have hz0 := hQ.1
  have hl : lv_has ls 2 [(0, .ref a), (1, .ref (oX O + 43))] := hl
  have hQ := hQ.at (a := a) (ci := 1) (by rw [x_ku_at]) g_1
  rw [x_kl_one] at hQ
  refine lv_aload_n hx hb dX1_init_0 rfl (lv_at hl 0 rfl) ?_
  refine W.objInit hx hb C.2.2.2.1 (C.2.2.2.2.1 _ oi_1) (C.2.2.2.2.1 _ oi_inst) (C.2.2.2.2.1 _ oi_code) rfl (by rw [C.2.2.1]; exact hl.1) rfl dX1_init_1 (Nat.le_of_ble_eq_true rfl) (Nat.le_of_ble_eq_true rfl) ?_
  refine lv_aload_n hx hb dX1_init_4 rfl (lv_at hl 0 rfl) ?_
  refine lv_iconst (v := 5) hx hb dX1_init_5 rfl ?_
  refine n_newa C hQ hS rfl (by intro k; simp [g_1]) 14 (Or.inl ⟨rfl, rfl⟩) ac_int (by decide) (N := 5) (by decide) (by decide) (Nat.le_of_ble_eq_true rfl) (Nat.le_of_ble_eq_true rfl) dX1_init_6 (fun H hQ hS => ?_)
  have hQ : x_Q2 O (x_kl K a [(21, 0), (14, 5)]) (x_fu F a [.null, .null, .null, .int 0, .long 0, .long 0]) (x_hs h a 2 g_1) H (a + 2) := hQ
  refine n_put C hQ hS (ci := 1) rfl inT_1 tyX1 tyX1_ok nmX1 1 (by decide) tw_423 (Or.inr ⟨rfl, hn, rfl⟩) rfl rfl (Nat.le_of_ble_eq_true rfl) dX1_init_8 (fun H locs hQ hS => ?_)
  have hQ : x_Q2 O (x_kl K a [(21, 0), (14, 5)]) (x_fu F a [.null, .ref (a + 1), .null, .int 0, .long 0, .long 0]) (x_hs h a 2 g_1) H (a + 2) := hQ
  refine lv_aload_n hx hb dX1_init_11 rfl (lv_at hl 0 rfl) ?_
  refine lv_bipush (v := 6) hx hb dX1_init_12 rfl ?_
  refine n_newa C hQ hS rfl (by intro k; simp [g_1]) 14 (Or.inl ⟨rfl, rfl⟩) ac_int (by decide) (N := 6) (by decide) (by decide) (Nat.le_of_ble_eq_true rfl) (Nat.le_of_ble_eq_true rfl) dX1_init_14 (fun H hQ hS => ?_)
  have hQ : x_Q2 O (x_kl K a [(21, 0), (14, 5), (14, 6)]) (x_fu F a [.null, .ref (a + 1), .null, .int 0, .long 0, .long 0]) (x_hs h a 3 g_1) H (a + 3) := hQ
  refine n_put C hQ hS (ci := 1) rfl inT_1 tyX1 tyX1_ok nmX1 2 (by decide) tw_424 (Or.inr ⟨rfl, hn, rfl⟩) rfl rfl (Nat.le_of_ble_eq_true rfl) dX1_init_16 (fun H locs hQ hS => ?_)
  have hQ : x_Q2 O (x_kl K a [(21, 0), (14, 5), (14, 6)]) (x_fu F a [.null, .ref (a + 1), .ref (a + 2), .int 0, .long 0, .long 0]) (x_hs h a 3 g_1) H (a + 3) := hQ
  refine lv_aload_n hx hb dX1_init_19 rfl (lv_at hl 0 rfl) ?_
  refine lv_iconst (v := 0) hx hb dX1_init_20 rfl ?_
  refine n_put C hQ hS (ci := 1) rfl inT_1 tyX1 tyX1_ok nmX1 3 (by decide) tw_425 (Or.inl rfl) rfl rfl (Nat.le_of_ble_eq_true rfl) dX1_init_21 (fun H locs hQ hS => ?_)
  have hQ : x_Q2 O (x_kl K a [(21, 0), (14, 5), (14, 6)]) (x_fu F a [.null, .ref (a + 1), .ref (a + 2), .int 0, .long 0, .long 0]) (x_hs h a 3 g_1) H (a + 3) := hQ
  refine lv_aload_n hx hb dX1_init_24 rfl (lv_at hl 0 rfl) ?_
  refine lv_lconst (v := 0) hx hb dX1_init_25 rfl ?_
  refine n_put C hQ hS (ci := 1) rfl inT_1 tyX1 tyX1_ok nmX1 4 (by decide) tw_427 (Or.inl rfl) rfl rfl (Nat.le_of_ble_eq_true rfl) dX1_init_26 (fun H locs hQ hS => ?_)
  have hQ : x_Q2 O (x_kl K a [(21, 0), (14, 5), (14, 6)]) (x_fu F a [.null, .ref (a + 1), .ref (a + 2), .int 0, .long 0, .long 0]) (x_hs h a 3 g_1) H (a + 3) := hQ
  refine lv_aload_n hx hb dX1_init_29 rfl (lv_at hl 0 rfl) ?_
  refine lv_lconst (v := 1) hx hb dX1_init_30 rfl ?_
  refine n_put C hQ hS (ci := 1) rfl inT_1 tyX1 tyX1_ok nmX1 5 (by decide) tw_429 (Or.inl rfl) rfl rfl (Nat.le_of_ble_eq_true rfl) dX1_init_31 (fun H locs hQ hS => ?_)
  have hQ : x_Q2 O (x_kl K a [(21, 0), (14, 5), (14, 6)]) (x_fu F a [.null, .ref (a + 1), .ref (a + 2), .int 0, .long 0, .long 1]) (x_hs h a 3 g_1) H (a + 3) := hQ
  refine lv_aload_n hx hb dX1_init_34 rfl (lv_at hl 0 rfl) ?_
  refine lv_aload_n hx hb dX1_init_35 rfl (lv_at hl 1 rfl) ?_
  refine n_put C hQ hS (ci := 1) rfl inT_1 tyX1 tyX1_ok nmX1 0 (by decide) tw_422 (Or.inr ⟨rfl, hn, rfl⟩) rfl rfl (Nat.le_of_ble_eq_true rfl) dX1_init_36 (fun H locs hQ hS => ?_)
  have hQ : x_Q2 O (x_kl K a [(21, 0), (14, 5), (14, 6)]) (x_fu F a [.ref (oX O + 43), .ref (a + 1), .ref (a + 2), .int 0, .long 0, .long 1]) (x_hs h a 3 g_1) H (a + 3) := hQ
  exact r_vret C (hQ.fin 1 (by decide) (by simp [x_fs, x_hs, va_rf, g_1, show ¬ (a + 3 ≤ a) by omega])) hS (Nat.le_of_ble_eq_true rfl) (Nat.le_of_ble_eq_true rfl) dX1_init_39
def g_3 : XG := (fun j k => if j = 0 ∧ k = 5 then (-1) else 0, fun _ _ => 0)
theorem oi_3 : Cond.methodLink RX3 3 Lib.objectInit ∈ TB := TB_of (tin_2 (List.mem_of_getElem? (i := 104) (by decide +kernel))) rfl
theorem kc_3 : Cond.code yX3_init cX3_init 1 none ∈ TB := TB_of (tin_2 (List.mem_of_getElem? (i := 103) (by decide +kernel))) rfl
theorem ki_3 : Cond.instanceMethod yX3_init ∈ TB := TB_of (tin_2 (List.mem_of_getElem? (i := 102) (by decide +kernel))) rfl
theorem mk_3 : x_MK yX3_init cX3_init 1 0 := ⟨kc_3, ki_3, tw_115, by decide, by decide, by decide +kernel, rfl⟩
set_option maxRecDepth 20000 in
theorem S_X3_init {l : Launch} {O : XO} {K : XK} {F : Nat → List Value} {h : XH} {a : Nat} : x_MI l O yX3_init cX3_init 1 none 1 40 4 45 (x_ku K a (23, 0)) (x_fu F a [.null, .null, .null, .null, .int 0, .int 0]) h (a + 1) [.ref a] none (x_kl K a [(4, 0), (14, 5), (14, 30), (14, 5), (14, 5)]) F (x_hs h a 5 g_3) (a + 5) := by
  refine x_enterI (by decide) (Nat.le_of_ble_eq_true rfl) (fun p e s m args below meth c C hn hQ ls hl => ?_)
  have hS : va_S (oA O) s.heap s.heap [] := va_S.rf
  have hx := C.1
  have hb := C.2.1
  have hz0 := hQ.1
  have hl : lv_has ls 1 [(0, .ref a)] := hl
  have hQ := hQ.at (a := a) (ci := 3) (by rw [x_ku_at]) g_3
  rw [x_kl_one] at hQ
  refine lv_aload_n hx hb dX3_init_0 rfl (lv_at hl 0 rfl) ?_
  refine W.objInit hx hb C.2.2.2.1 (C.2.2.2.2.1 _ oi_3) (C.2.2.2.2.1 _ oi_inst) (C.2.2.2.2.1 _ oi_code) rfl (by rw [C.2.2.1]; exact hl.1) rfl dX3_init_1 (Nat.le_of_ble_eq_true rfl) (Nat.le_of_ble_eq_true rfl) ?_
  refine lv_aload_n hx hb dX3_init_4 rfl (lv_at hl 0 rfl) ?_
  refine lv_iconst (v := 5) hx hb dX3_init_5 rfl ?_
  refine n_newa C hQ hS rfl (by intro k; simp [g_3]) 14 (Or.inl ⟨rfl, rfl⟩) ac_int (by decide) (N := 5) (by decide) (by decide) (Nat.le_of_ble_eq_true rfl) (Nat.le_of_ble_eq_true rfl) dX3_init_6 (fun H hQ hS => ?_)
  have hQ : x_Q2 O (x_kl K a [(23, 0), (14, 5)]) (x_fu F a [.null, .null, .null, .null, .int 0, .int 0]) (x_hs h a 2 g_3) H (a + 2) := hQ
  refine n_put C hQ hS (ci := 3) rfl inT_3 tyX3 tyX3_ok nmX3 0 (by decide) tw_450 (Or.inr ⟨rfl, hn, rfl⟩) rfl rfl (Nat.le_of_ble_eq_true rfl) dX3_init_8 (fun H locs hQ hS => ?_)
  have hQ : x_Q2 O (x_kl K a [(23, 0), (14, 5)]) (x_fu F a [.ref (a + 1), .null, .null, .null, .int 0, .int 0]) (x_hs h a 2 g_3) H (a + 2) := hQ
  refine lv_aload_n hx hb dX3_init_11 rfl (lv_at hl 0 rfl) ?_
  refine lv_bipush (v := 30) hx hb dX3_init_12 rfl ?_
  refine n_newa C hQ hS rfl (by intro k; simp [g_3]) 14 (Or.inl ⟨rfl, rfl⟩) ac_int (by decide) (N := 30) (by decide) (by decide) (Nat.le_of_ble_eq_true rfl) (Nat.le_of_ble_eq_true rfl) dX3_init_14 (fun H hQ hS => ?_)
  have hQ : x_Q2 O (x_kl K a [(23, 0), (14, 5), (14, 30)]) (x_fu F a [.ref (a + 1), .null, .null, .null, .int 0, .int 0]) (x_hs h a 3 g_3) H (a + 3) := hQ
  refine n_put C hQ hS (ci := 3) rfl inT_3 tyX3 tyX3_ok nmX3 1 (by decide) tw_451 (Or.inr ⟨rfl, hn, rfl⟩) rfl rfl (Nat.le_of_ble_eq_true rfl) dX3_init_16 (fun H locs hQ hS => ?_)
  have hQ : x_Q2 O (x_kl K a [(23, 0), (14, 5), (14, 30)]) (x_fu F a [.ref (a + 1), .ref (a + 2), .null, .null, .int 0, .int 0]) (x_hs h a 3 g_3) H (a + 3) := hQ
  refine lv_aload_n hx hb dX3_init_19 rfl (lv_at hl 0 rfl) ?_
  refine lv_iconst (v := 5) hx hb dX3_init_20 rfl ?_
  refine n_newa C hQ hS rfl (by intro k; simp [g_3]) 14 (Or.inl ⟨rfl, rfl⟩) ac_int (by decide) (N := 5) (by decide) (by decide) (Nat.le_of_ble_eq_true rfl) (Nat.le_of_ble_eq_true rfl) dX3_init_21 (fun H hQ hS => ?_)
  have hQ : x_Q2 O (x_kl K a [(23, 0), (14, 5), (14, 30), (14, 5)]) (x_fu F a [.ref (a + 1), .ref (a + 2), .null, .null, .int 0, .int 0]) (x_hs h a 4 g_3) H (a + 4) := hQ
  refine n_put C hQ hS (ci := 3) rfl inT_3 tyX3 tyX3_ok nmX3 2 (by decide) tw_452 (Or.inr ⟨rfl, hn, rfl⟩) rfl rfl (Nat.le_of_ble_eq_true rfl) dX3_init_23 (fun H locs hQ hS => ?_)
  have hQ : x_Q2 O (x_kl K a [(23, 0), (14, 5), (14, 30), (14, 5)]) (x_fu F a [.ref (a + 1), .ref (a + 2), .ref (a + 3), .null, .int 0, .int 0]) (x_hs h a 4 g_3) H (a + 4) := hQ
  refine lv_aload_n hx hb dX3_init_26 rfl (lv_at hl 0 rfl) ?_
  refine lv_iconst (v := 5) hx hb dX3_init_27 rfl ?_
  refine n_newa C hQ hS rfl (by intro k; simp [g_3]) 14 (Or.inl ⟨rfl, rfl⟩) ac_int (by decide) (N := 5) (by decide) (by decide) (Nat.le_of_ble_eq_true rfl) (Nat.le_of_ble_eq_true rfl) dX3_init_28 (fun H hQ hS => ?_)
  have hQ : x_Q2 O (x_kl K a [(23, 0), (14, 5), (14, 30), (14, 5), (14, 5)]) (x_fu F a [.ref (a + 1), .ref (a + 2), .ref (a + 3), .null, .int 0, .int 0]) (x_hs h a 5 g_3) H (a + 5) := hQ
  refine n_put C hQ hS (ci := 3) rfl inT_3 tyX3 tyX3_ok nmX3 3 (by decide) tw_453 (Or.inr ⟨rfl, hn, rfl⟩) rfl rfl (Nat.le_of_ble_eq_true rfl) dX3_init_30 (fun H locs hQ hS => ?_)
  have hQ : x_Q2 O (x_kl K a [(23, 0), (14, 5), (14, 30), (14, 5), (14, 5)]) (x_fu F a [.ref (a + 1), .ref (a + 2), .ref (a + 3), .ref (a + 4), .int 0, .int 0]) (x_hs h a 5 g_3) H (a + 5) := hQ
  refine lv_aload_n hx hb dX3_init_33 rfl (lv_at hl 0 rfl) ?_
  refine lv_iconst (v := 0) hx hb dX3_init_34 rfl ?_
  refine n_put C hQ hS (ci := 3) rfl inT_3 tyX3 tyX3_ok nmX3 4 (by decide) tw_454 (Or.inl rfl) rfl rfl (Nat.le_of_ble_eq_true rfl) dX3_init_35 (fun H locs hQ hS => ?_)
  have hQ : x_Q2 O (x_kl K a [(23, 0), (14, 5), (14, 30), (14, 5), (14, 5)]) (x_fu F a [.ref (a + 1), .ref (a + 2), .ref (a + 3), .ref (a + 4), .int 0, .int 0]) (x_hs h a 5 g_3) H (a + 5) := hQ
  refine lv_aload_n hx hb dX3_init_38 rfl (lv_at hl 0 rfl) ?_
  refine lv_iconst (v := (-1)) hx hb dX3_init_39 rfl ?_
  refine n_put C hQ hS (ci := 3) rfl inT_3 tyX3 tyX3_ok nmX3 5 (by decide) tw_455 (Or.inl rfl) rfl rfl (Nat.le_of_ble_eq_true rfl) dX3_init_40 (fun H locs hQ hS => ?_)
  have hQ : x_Q2 O (x_kl K a [(23, 0), (14, 5), (14, 30), (14, 5), (14, 5)]) (x_fu F a [.ref (a + 1), .ref (a + 2), .ref (a + 3), .ref (a + 4), .int 0, .int (-1)]) (x_hs h a 5 g_3) H (a + 5) := hQ
  exact r_vret C (hQ.fin 3 (by decide) (by simp [x_fs, x_hs, va_rf, g_3, show ¬ (a + 5 ≤ a) by omega])) hS (Nat.le_of_ble_eq_true rfl) (Nat.le_of_ble_eq_true rfl) dX3_init_43
def g_0 : XG := (fun _ _ => 0, fun _ _ => 0)
theorem oi_0 : Cond.methodLink RX0 3 Lib.objectInit ∈ TB := TB_of (tin_2 (List.mem_of_getElem? (i := 130) (by decide +kernel))) rfl
theorem kc_0 : Cond.code yX0_init cX0_init 3 none ∈ TB := TB_of (tin_2 (List.mem_of_getElem? (i := 129) (by decide +kernel))) rfl
theorem ki_0 : Cond.instanceMethod yX0_init ∈ TB := TB_of (tin_2 (List.mem_of_getElem? (i := 128) (by decide +kernel))) rfl
theorem mk_0 : x_MK yX0_init cX0_init 3 2 := ⟨kc_0, ki_0, tw_116, by decide, by decide, by decide +kernel, rfl⟩
set_option maxRecDepth 20000 in
theorem S_X0_init {l : Launch} {O : XO} {K : XK} {F : Nat → List Value} {h : XH} {a : Nat} : x_MI l O yX0_init cX0_init 3 none 1 40 4 1667 (x_ku K a (20, 0)) (x_fu F a [.null, .null, .null, .null, .null, .null]) h (a + 1) [.ref a, .ref (oX O + 9), .ref (oX O + 46)] none (x_kl K a [(1, 0), (14, 52), (14, 52), (14, 1560), (14, 3)]) F (x_hs h a 5 g_0) (a + 5) := by
  refine x_enterI (by decide) (Nat.le_of_ble_eq_true rfl) (fun p e s m args below meth c C hn hQ ls hl => ?_)
  have hS : va_S (oA O) s.heap s.heap [] := va_S.rf
  have hx := C.1
  have hb := C.2.1
  have hz0 := hQ.1
  have hl : lv_has ls 3 [(0, .ref a), (1, .ref (oX O + 9)), (2, .ref (oX O + 46))] := hl
  have hQ := hQ.at (a := a) (ci := 0) (by rw [x_ku_at]) g_0
  rw [x_kl_one] at hQ
  refine lv_aload_n hx hb dX0_init_0 rfl (lv_at hl 0 rfl) ?_
  refine W.objInit hx hb C.2.2.2.1 (C.2.2.2.2.1 _ oi_0) (C.2.2.2.2.1 _ oi_inst) (C.2.2.2.2.1 _ oi_code) rfl (by rw [C.2.2.1]; exact hl.1) rfl dX0_init_1 (Nat.le_of_ble_eq_true rfl) (Nat.le_of_ble_eq_true rfl) ?_
  refine lv_aload_n hx hb dX0_init_4 rfl (lv_at hl 0 rfl) ?_
  refine lv_bipush (v := 52) hx hb dX0_init_5 rfl ?_
  refine n_newa C hQ hS rfl (by intro k; simp [g_0]) 14 (Or.inl ⟨rfl, rfl⟩) ac_int (by decide) (N := 52) (by decide) (by decide) (Nat.le_of_ble_eq_true rfl) (Nat.le_of_ble_eq_true rfl) dX0_init_7 (fun H hQ hS => ?_)
  have hQ : x_Q2 O (x_kl K a [(20, 0), (14, 52)]) (x_fu F a [.null, .null, .null, .null, .null, .null]) (x_hs h a 2 g_0) H (a + 2) := hQ
  refine n_put C hQ hS (ci := 0) rfl inT_0 tyX0 tyX0_ok nmX0 2 (by decide) tw_478 (Or.inr ⟨rfl, hn, rfl⟩) rfl rfl (Nat.le_of_ble_eq_true rfl) dX0_init_9 (fun H locs hQ hS => ?_)
  have hQ : x_Q2 O (x_kl K a [(20, 0), (14, 52)]) (x_fu F a [.null, .null, .ref (a + 1), .null, .null, .null]) (x_hs h a 2 g_0) H (a + 2) := hQ
  refine lv_aload_n hx hb dX0_init_12 rfl (lv_at hl 0 rfl) ?_
  refine lv_bipush (v := 52) hx hb dX0_init_13 rfl ?_
  refine n_newa C hQ hS rfl (by intro k; simp [g_0]) 14 (Or.inl ⟨rfl, rfl⟩) ac_int (by decide) (N := 52) (by decide) (by decide) (Nat.le_of_ble_eq_true rfl) (Nat.le_of_ble_eq_true rfl) dX0_init_15 (fun H hQ hS => ?_)
  have hQ : x_Q2 O (x_kl K a [(20, 0), (14, 52), (14, 52)]) (x_fu F a [.null, .null, .ref (a + 1), .null, .null, .null]) (x_hs h a 3 g_0) H (a + 3) := hQ
  refine n_put C hQ hS (ci := 0) rfl inT_0 tyX0 tyX0_ok nmX0 3 (by decide) tw_479 (Or.inr ⟨rfl, hn, rfl⟩) rfl rfl (Nat.le_of_ble_eq_true rfl) dX0_init_17 (fun H locs hQ hS => ?_)
  have hQ : x_Q2 O (x_kl K a [(20, 0), (14, 52), (14, 52)]) (x_fu F a [.null, .null, .ref (a + 1), .ref (a + 2), .null, .null]) (x_hs h a 3 g_0) H (a + 3) := hQ
  refine lv_aload_n hx hb dX0_init_20 rfl (lv_at hl 0 rfl) ?_
  refine lv_sipush (v := 1560) hx hb dX0_init_21 rfl ?_
  refine n_newa C hQ hS rfl (by intro k; simp [g_0]) 14 (Or.inl ⟨rfl, rfl⟩) ac_int (by decide) (N := 1560) (by decide) (by decide) (Nat.le_of_ble_eq_true rfl) (Nat.le_of_ble_eq_true rfl) dX0_init_24 (fun H hQ hS => ?_)
  have hQ : x_Q2 O (x_kl K a [(20, 0), (14, 52), (14, 52), (14, 1560)]) (x_fu F a [.null, .null, .ref (a + 1), .ref (a + 2), .null, .null]) (x_hs h a 4 g_0) H (a + 4) := hQ
  refine n_put C hQ hS (ci := 0) rfl inT_0 tyX0 tyX0_ok nmX0 4 (by decide) tw_480 (Or.inr ⟨rfl, hn, rfl⟩) rfl rfl (Nat.le_of_ble_eq_true rfl) dX0_init_26 (fun H locs hQ hS => ?_)
  have hQ : x_Q2 O (x_kl K a [(20, 0), (14, 52), (14, 52), (14, 1560)]) (x_fu F a [.null, .null, .ref (a + 1), .ref (a + 2), .ref (a + 3), .null]) (x_hs h a 4 g_0) H (a + 4) := hQ
  refine lv_aload_n hx hb dX0_init_29 rfl (lv_at hl 0 rfl) ?_
  refine lv_iconst (v := 3) hx hb dX0_init_30 rfl ?_
  refine n_newa C hQ hS rfl (by intro k; simp [g_0]) 14 (Or.inl ⟨rfl, rfl⟩) ac_int (by decide) (N := 3) (by decide) (by decide) (Nat.le_of_ble_eq_true rfl) (Nat.le_of_ble_eq_true rfl) dX0_init_31 (fun H hQ hS => ?_)
  have hQ : x_Q2 O (x_kl K a [(20, 0), (14, 52), (14, 52), (14, 1560), (14, 3)]) (x_fu F a [.null, .null, .ref (a + 1), .ref (a + 2), .ref (a + 3), .null]) (x_hs h a 5 g_0) H (a + 5) := hQ
  refine n_put C hQ hS (ci := 0) rfl inT_0 tyX0 tyX0_ok nmX0 5 (by decide) tw_481 (Or.inr ⟨rfl, hn, rfl⟩) rfl rfl (Nat.le_of_ble_eq_true rfl) dX0_init_33 (fun H locs hQ hS => ?_)
  have hQ : x_Q2 O (x_kl K a [(20, 0), (14, 52), (14, 52), (14, 1560), (14, 3)]) (x_fu F a [.null, .null, .ref (a + 1), .ref (a + 2), .ref (a + 3), .ref (a + 4)]) (x_hs h a 5 g_0) H (a + 5) := hQ
  refine lv_aload_n hx hb dX0_init_36 rfl (lv_at hl 0 rfl) ?_
  refine lv_aload_n hx hb dX0_init_37 rfl (lv_at hl 1 rfl) ?_
  refine n_put C hQ hS (ci := 0) rfl inT_0 tyX0 tyX0_ok nmX0 0 (by decide) tw_476 (Or.inr ⟨rfl, hn, rfl⟩) rfl rfl (Nat.le_of_ble_eq_true rfl) dX0_init_38 (fun H locs hQ hS => ?_)
  have hQ : x_Q2 O (x_kl K a [(20, 0), (14, 52), (14, 52), (14, 1560), (14, 3)]) (x_fu F a [.ref (oX O + 9), .null, .ref (a + 1), .ref (a + 2), .ref (a + 3), .ref (a + 4)]) (x_hs h a 5 g_0) H (a + 5) := hQ
  refine lv_aload_n hx hb dX0_init_41 rfl (lv_at hl 0 rfl) ?_
  refine lv_aload_n hx hb dX0_init_42 rfl (lv_at hl 2 rfl) ?_
  refine n_put C hQ hS (ci := 0) rfl inT_0 tyX0 tyX0_ok nmX0 1 (by decide) tw_477 (Or.inr ⟨rfl, hn, rfl⟩) rfl rfl (Nat.le_of_ble_eq_true rfl) dX0_init_43 (fun H locs hQ hS => ?_)
  have hQ : x_Q2 O (x_kl K a [(20, 0), (14, 52), (14, 52), (14, 1560), (14, 3)]) (x_fu F a [.ref (oX O + 9), .ref (oX O + 46), .ref (a + 1), .ref (a + 2), .ref (a + 3), .ref (a + 4)]) (x_hs h a 5 g_0) H (a + 5) := hQ
  exact r_vret C (hQ.fin 0 (by decide) (by simp [x_fs, x_hs, va_rf, g_0, show ¬ (a + 5 ≤ a) by omega])) hS (Nat.le_of_ble_eq_true rfl) (Nat.le_of_ble_eq_true rfl) dX0_init_46
def g_8 : XG := (fun j k => if j = 0 ∧ k = 8 then (-1) else 0, fun _ _ => 0)
theorem oi_8 : Cond.methodLink RX8 5 Lib.objectInit ∈ TB := TB_of (tin_1 (List.mem_of_getElem? (i := 43) (by decide +kernel))) rfl
theorem kc_8 : Cond.code yX8_init cX8_init 1 none ∈ TB := TB_of (tin_1 (List.mem_of_getElem? (i := 42) (by decide +kernel))) rfl
theorem ki_8 : Cond.instanceMethod yX8_init ∈ TB := TB_of (tin_1 (List.mem_of_getElem? (i := 41) (by decide +kernel))) rfl
theorem mk_8 : x_MK yX8_init cX8_init 1 0 := ⟨kc_8, ki_8, tw_107, by decide, by decide, by decide +kernel, rfl⟩
set_option maxRecDepth 20000 in
theorem S_X8_init {l : Launch} {O : XO} {K : XK} {F : Nat → List Value} {h : XH} {a : Nat} : x_MI l O yX8_init cX8_init 1 none 1 40 7 1632 (x_ku K a (28, 0)) (x_fu F a [.null, .int 0, .null, .null, .null, .null, .null, .null, .int 0, .int 0, .int 0, .int 0]) h (a + 1) [.ref a] none (x_kl K a [(9, 0), (14, 400), (14, 401), (14, 401), (14, 10), (14, 10), (14, 10), (14, 400)]) F (x_hs h a 8 g_8) (a + 8) := by
  refine x_enterI (by decide) (Nat.le_of_ble_eq_true rfl) (fun p e s m args below meth c C hn hQ ls hl => ?_)
  have hS : va_S (oA O) s.heap s.heap [] := va_S.rf
  have hx := C.1
  have hb := C.2.1
  have hz0 := hQ.1
  have hl : lv_has ls 1 [(0, .ref a)] := hl
  have hQ := hQ.at (a := a) (ci := 8) (by rw [x_ku_at]) g_8
  rw [x_kl_one] at hQ
  refine lv_aload_n hx hb dX8_init_0 rfl (lv_at hl 0 rfl) ?_
  refine W.objInit hx hb C.2.2.2.1 (C.2.2.2.2.1 _ oi_8) (C.2.2.2.2.1 _ oi_inst) (C.2.2.2.2.1 _ oi_code) rfl (by rw [C.2.2.1]; exact hl.1) rfl dX8_init_1 (Nat.le_of_ble_eq_true rfl) (Nat.le_of_ble_eq_true rfl) ?_
  refine lv_aload_n hx hb dX8_init_4 rfl (lv_at hl 0 rfl) ?_
  refine lv_sipush (v := 400) hx hb dX8_init_5 rfl ?_
  refine n_newa C hQ hS rfl (by intro k; simp [g_8]) 14 (Or.inl ⟨rfl, rfl⟩) ac_int (by decide) (N := 400) (by decide) (by decide) (Nat.le_of_ble_eq_true rfl) (Nat.le_of_ble_eq_true rfl) dX8_init_8 (fun H hQ hS => ?_)
  have hQ : x_Q2 O (x_kl K a [(28, 0), (14, 400)]) (x_fu F a [.null, .int 0, .null, .null, .null, .null, .null, .null, .int 0, .int 0, .int 0, .int 0]) (x_hs h a 2 g_8) H (a + 2) := hQ
  refine n_put C hQ hS (ci := 8) rfl inT_8 tyX8 tyX8_ok nmX8 0 (by decide) tw_149 (Or.inr ⟨rfl, hn, rfl⟩) rfl rfl (Nat.le_of_ble_eq_true rfl) dX8_init_10 (fun H locs hQ hS => ?_)
  have hQ : x_Q2 O (x_kl K a [(28, 0), (14, 400)]) (x_fu F a [.ref (a + 1), .int 0, .null, .null, .null, .null, .null, .null, .int 0, .int 0, .int 0, .int 0]) (x_hs h a 2 g_8) H (a + 2) := hQ
  refine lv_aload_n hx hb dX8_init_13 rfl (lv_at hl 0 rfl) ?_
  refine lv_iconst (v := 0) hx hb dX8_init_14 rfl ?_
  refine n_put C hQ hS (ci := 8) rfl inT_8 tyX8 tyX8_ok nmX8 1 (by decide) tw_150 (Or.inl rfl) rfl rfl (Nat.le_of_ble_eq_true rfl) dX8_init_15 (fun H locs hQ hS => ?_)
  have hQ : x_Q2 O (x_kl K a [(28, 0), (14, 400)]) (x_fu F a [.ref (a + 1), .int 0, .null, .null, .null, .null, .null, .null, .int 0, .int 0, .int 0, .int 0]) (x_hs h a 2 g_8) H (a + 2) := hQ
  refine lv_aload_n hx hb dX8_init_18 rfl (lv_at hl 0 rfl) ?_
  refine lv_sipush (v := 401) hx hb dX8_init_19 rfl ?_
  refine n_newa C hQ hS rfl (by intro k; simp [g_8]) 14 (Or.inl ⟨rfl, rfl⟩) ac_int (by decide) (N := 401) (by decide) (by decide) (Nat.le_of_ble_eq_true rfl) (Nat.le_of_ble_eq_true rfl) dX8_init_22 (fun H hQ hS => ?_)
  have hQ : x_Q2 O (x_kl K a [(28, 0), (14, 400), (14, 401)]) (x_fu F a [.ref (a + 1), .int 0, .null, .null, .null, .null, .null, .null, .int 0, .int 0, .int 0, .int 0]) (x_hs h a 3 g_8) H (a + 3) := hQ
  refine n_put C hQ hS (ci := 8) rfl inT_8 tyX8 tyX8_ok nmX8 2 (by decide) tw_152 (Or.inr ⟨rfl, hn, rfl⟩) rfl rfl (Nat.le_of_ble_eq_true rfl) dX8_init_24 (fun H locs hQ hS => ?_)
  have hQ : x_Q2 O (x_kl K a [(28, 0), (14, 400), (14, 401)]) (x_fu F a [.ref (a + 1), .int 0, .ref (a + 2), .null, .null, .null, .null, .null, .int 0, .int 0, .int 0, .int 0]) (x_hs h a 3 g_8) H (a + 3) := hQ
  refine lv_aload_n hx hb dX8_init_27 rfl (lv_at hl 0 rfl) ?_
  refine lv_sipush (v := 401) hx hb dX8_init_28 rfl ?_
  refine n_newa C hQ hS rfl (by intro k; simp [g_8]) 14 (Or.inl ⟨rfl, rfl⟩) ac_int (by decide) (N := 401) (by decide) (by decide) (Nat.le_of_ble_eq_true rfl) (Nat.le_of_ble_eq_true rfl) dX8_init_31 (fun H hQ hS => ?_)
  have hQ : x_Q2 O (x_kl K a [(28, 0), (14, 400), (14, 401), (14, 401)]) (x_fu F a [.ref (a + 1), .int 0, .ref (a + 2), .null, .null, .null, .null, .null, .int 0, .int 0, .int 0, .int 0]) (x_hs h a 4 g_8) H (a + 4) := hQ
  refine n_put C hQ hS (ci := 8) rfl inT_8 tyX8 tyX8_ok nmX8 3 (by decide) tw_153 (Or.inr ⟨rfl, hn, rfl⟩) rfl rfl (Nat.le_of_ble_eq_true rfl) dX8_init_33 (fun H locs hQ hS => ?_)
  have hQ : x_Q2 O (x_kl K a [(28, 0), (14, 400), (14, 401), (14, 401)]) (x_fu F a [.ref (a + 1), .int 0, .ref (a + 2), .ref (a + 3), .null, .null, .null, .null, .int 0, .int 0, .int 0, .int 0]) (x_hs h a 4 g_8) H (a + 4) := hQ
  refine lv_aload_n hx hb dX8_init_36 rfl (lv_at hl 0 rfl) ?_
  refine lv_bipush (v := 10) hx hb dX8_init_37 rfl ?_
  refine n_newa C hQ hS rfl (by intro k; simp [g_8]) 14 (Or.inl ⟨rfl, rfl⟩) ac_int (by decide) (N := 10) (by decide) (by decide) (Nat.le_of_ble_eq_true rfl) (Nat.le_of_ble_eq_true rfl) dX8_init_39 (fun H hQ hS => ?_)
  have hQ : x_Q2 O (x_kl K a [(28, 0), (14, 400), (14, 401), (14, 401), (14, 10)]) (x_fu F a [.ref (a + 1), .int 0, .ref (a + 2), .ref (a + 3), .null, .null, .null, .null, .int 0, .int 0, .int 0, .int 0]) (x_hs h a 5 g_8) H (a + 5) := hQ
  refine n_put C hQ hS (ci := 8) rfl inT_8 tyX8 tyX8_ok nmX8 4 (by decide) tw_154 (Or.inr ⟨rfl, hn, rfl⟩) rfl rfl (Nat.le_of_ble_eq_true rfl) dX8_init_41 (fun H locs hQ hS => ?_)
  have hQ : x_Q2 O (x_kl K a [(28, 0), (14, 400), (14, 401), (14, 401), (14, 10)]) (x_fu F a [.ref (a + 1), .int 0, .ref (a + 2), .ref (a + 3), .ref (a + 4), .null, .null, .null, .int 0, .int 0, .int 0, .int 0]) (x_hs h a 5 g_8) H (a + 5) := hQ
  refine lv_aload_n hx hb dX8_init_44 rfl (lv_at hl 0 rfl) ?_
  refine lv_bipush (v := 10) hx hb dX8_init_45 rfl ?_
  refine n_newa C hQ hS rfl (by intro k; simp [g_8]) 14 (Or.inl ⟨rfl, rfl⟩) ac_int (by decide) (N := 10) (by decide) (by decide) (Nat.le_of_ble_eq_true rfl) (Nat.le_of_ble_eq_true rfl) dX8_init_47 (fun H hQ hS => ?_)
  have hQ : x_Q2 O (x_kl K a [(28, 0), (14, 400), (14, 401), (14, 401), (14, 10), (14, 10)]) (x_fu F a [.ref (a + 1), .int 0, .ref (a + 2), .ref (a + 3), .ref (a + 4), .null, .null, .null, .int 0, .int 0, .int 0, .int 0]) (x_hs h a 6 g_8) H (a + 6) := hQ
  refine n_put C hQ hS (ci := 8) rfl inT_8 tyX8 tyX8_ok nmX8 5 (by decide) tw_155 (Or.inr ⟨rfl, hn, rfl⟩) rfl rfl (Nat.le_of_ble_eq_true rfl) dX8_init_49 (fun H locs hQ hS => ?_)
  have hQ : x_Q2 O (x_kl K a [(28, 0), (14, 400), (14, 401), (14, 401), (14, 10), (14, 10)]) (x_fu F a [.ref (a + 1), .int 0, .ref (a + 2), .ref (a + 3), .ref (a + 4), .ref (a + 5), .null, .null, .int 0, .int 0, .int 0, .int 0]) (x_hs h a 6 g_8) H (a + 6) := hQ
  refine lv_aload_n hx hb dX8_init_52 rfl (lv_at hl 0 rfl) ?_
  refine lv_bipush (v := 10) hx hb dX8_init_53 rfl ?_
  refine n_newa C hQ hS rfl (by intro k; simp [g_8]) 14 (Or.inl ⟨rfl, rfl⟩) ac_int (by decide) (N := 10) (by decide) (by decide) (Nat.le_of_ble_eq_true rfl) (Nat.le_of_ble_eq_true rfl) dX8_init_55 (fun H hQ hS => ?_)
  have hQ : x_Q2 O (x_kl K a [(28, 0), (14, 400), (14, 401), (14, 401), (14, 10), (14, 10), (14, 10)]) (x_fu F a [.ref (a + 1), .int 0, .ref (a + 2), .ref (a + 3), .ref (a + 4), .ref (a + 5), .null, .null, .int 0, .int 0, .int 0, .int 0]) (x_hs h a 7 g_8) H (a + 7) := hQ
  refine n_put C hQ hS (ci := 8) rfl inT_8 tyX8 tyX8_ok nmX8 6 (by decide) tw_156 (Or.inr ⟨rfl, hn, rfl⟩) rfl rfl (Nat.le_of_ble_eq_true rfl) dX8_init_57 (fun H locs hQ hS => ?_)
  have hQ : x_Q2 O (x_kl K a [(28, 0), (14, 400), (14, 401), (14, 401), (14, 10), (14, 10), (14, 10)]) (x_fu F a [.ref (a + 1), .int 0, .ref (a + 2), .ref (a + 3), .ref (a + 4), .ref (a + 5), .ref (a + 6), .null, .int 0, .int 0, .int 0, .int 0]) (x_hs h a 7 g_8) H (a + 7) := hQ
  refine lv_aload_n hx hb dX8_init_60 rfl (lv_at hl 0 rfl) ?_
  refine lv_sipush (v := 400) hx hb dX8_init_61 rfl ?_
  refine n_newa C hQ hS rfl (by intro k; simp [g_8]) 14 (Or.inl ⟨rfl, rfl⟩) ac_int (by decide) (N := 400) (by decide) (by decide) (Nat.le_of_ble_eq_true rfl) (Nat.le_of_ble_eq_true rfl) dX8_init_64 (fun H hQ hS => ?_)
  have hQ : x_Q2 O (x_kl K a [(28, 0), (14, 400), (14, 401), (14, 401), (14, 10), (14, 10), (14, 10), (14, 400)]) (x_fu F a [.ref (a + 1), .int 0, .ref (a + 2), .ref (a + 3), .ref (a + 4), .ref (a + 5), .ref (a + 6), .null, .int 0, .int 0, .int 0, .int 0]) (x_hs h a 8 g_8) H (a + 8) := hQ
  refine n_put C hQ hS (ci := 8) rfl inT_8 tyX8 tyX8_ok nmX8 7 (by decide) tw_157 (Or.inr ⟨rfl, hn, rfl⟩) rfl rfl (Nat.le_of_ble_eq_true rfl) dX8_init_66 (fun H locs hQ hS => ?_)
  have hQ : x_Q2 O (x_kl K a [(28, 0), (14, 400), (14, 401), (14, 401), (14, 10), (14, 10), (14, 10), (14, 400)]) (x_fu F a [.ref (a + 1), .int 0, .ref (a + 2), .ref (a + 3), .ref (a + 4), .ref (a + 5), .ref (a + 6), .ref (a + 7), .int 0, .int 0, .int 0, .int 0]) (x_hs h a 8 g_8) H (a + 8) := hQ
  refine lv_aload_n hx hb dX8_init_69 rfl (lv_at hl 0 rfl) ?_
  refine lv_iconst (v := (-1)) hx hb dX8_init_70 rfl ?_
  refine n_put C hQ hS (ci := 8) rfl inT_8 tyX8 tyX8_ok nmX8 8 (by decide) tw_158 (Or.inl rfl) rfl rfl (Nat.le_of_ble_eq_true rfl) dX8_init_71 (fun H locs hQ hS => ?_)
  have hQ : x_Q2 O (x_kl K a [(28, 0), (14, 400), (14, 401), (14, 401), (14, 10), (14, 10), (14, 10), (14, 400)]) (x_fu F a [.ref (a + 1), .int 0, .ref (a + 2), .ref (a + 3), .ref (a + 4), .ref (a + 5), .ref (a + 6), .ref (a + 7), .int (-1), .int 0, .int 0, .int 0]) (x_hs h a 8 g_8) H (a + 8) := hQ
  refine lv_aload_n hx hb dX8_init_74 rfl (lv_at hl 0 rfl) ?_
  refine lv_iconst (v := 0) hx hb dX8_init_75 rfl ?_
  refine n_put C hQ hS (ci := 8) rfl inT_8 tyX8 tyX8_ok nmX8 9 (by decide) tw_160 (Or.inl rfl) rfl rfl (Nat.le_of_ble_eq_true rfl) dX8_init_76 (fun H locs hQ hS => ?_)
  have hQ : x_Q2 O (x_kl K a [(28, 0), (14, 400), (14, 401), (14, 401), (14, 10), (14, 10), (14, 10), (14, 400)]) (x_fu F a [.ref (a + 1), .int 0, .ref (a + 2), .ref (a + 3), .ref (a + 4), .ref (a + 5), .ref (a + 6), .ref (a + 7), .int (-1), .int 0, .int 0, .int 0]) (x_hs h a 8 g_8) H (a + 8) := hQ
  refine lv_aload_n hx hb dX8_init_79 rfl (lv_at hl 0 rfl) ?_
  refine lv_iconst (v := 0) hx hb dX8_init_80 rfl ?_
  refine n_put C hQ hS (ci := 8) rfl inT_8 tyX8 tyX8_ok nmX8 10 (by decide) tw_161 (Or.inl rfl) rfl rfl (Nat.le_of_ble_eq_true rfl) dX8_init_81 (fun H locs hQ hS => ?_)
  have hQ : x_Q2 O (x_kl K a [(28, 0), (14, 400), (14, 401), (14, 401), (14, 10), (14, 10), (14, 10), (14, 400)]) (x_fu F a [.ref (a + 1), .int 0, .ref (a + 2), .ref (a + 3), .ref (a + 4), .ref (a + 5), .ref (a + 6), .ref (a + 7), .int (-1), .int 0, .int 0, .int 0]) (x_hs h a 8 g_8) H (a + 8) := hQ
  refine lv_aload_n hx hb dX8_init_84 rfl (lv_at hl 0 rfl) ?_
  refine lv_iconst (v := 0) hx hb dX8_init_85 rfl ?_
  refine n_put C hQ hS (ci := 8) rfl inT_8 tyX8 tyX8_ok nmX8 11 (by decide) tw_162 (Or.inl rfl) rfl rfl (Nat.le_of_ble_eq_true rfl) dX8_init_86 (fun H locs hQ hS => ?_)
  have hQ : x_Q2 O (x_kl K a [(28, 0), (14, 400), (14, 401), (14, 401), (14, 10), (14, 10), (14, 10), (14, 400)]) (x_fu F a [.ref (a + 1), .int 0, .ref (a + 2), .ref (a + 3), .ref (a + 4), .ref (a + 5), .ref (a + 6), .ref (a + 7), .int (-1), .int 0, .int 0, .int 0]) (x_hs h a 8 g_8) H (a + 8) := hQ
  exact r_vret C (hQ.fin 8 (by decide) (by simp [x_fs, x_hs, va_rf, g_8, show ¬ (a + 8 ≤ a) by omega])) hS (Nat.le_of_ble_eq_true rfl) (Nat.le_of_ble_eq_true rfl) dX8_init_89
def g_12 : XG := (fun j k => if j = 0 ∧ k = 10 then (-1) else 0, fun _ _ => 0)
theorem oi_12 : Cond.methodLink RX12 7 Lib.objectInit ∈ TB := TB_of (tin_6 (List.mem_of_getElem? (i := 237) (by decide +kernel))) rfl
theorem kc_12 : Cond.code yX12_init cX12_init 1 none ∈ TB := TB_of (tin_6 (List.mem_of_getElem? (i := 236) (by decide +kernel))) rfl
theorem ki_12 : Cond.instanceMethod yX12_init ∈ TB := TB_of (tin_6 (List.mem_of_getElem? (i := 235) (by decide +kernel))) rfl
theorem mk_12 : x_MK yX12_init cX12_init 1 0 := ⟨kc_12, ki_12, tw_117, by decide, by decide, by decide +kernel, rfl⟩
set_option maxRecDepth 20000 in
theorem S_X12_init {l : Launch} {O : XO} {K : XK} {F : Nat → List Value} {h : XH} {a : Nat} : x_MI l O yX12_init cX12_init 1 none 1 40 11 13892 (x_ku K a (32, 0)) (x_fu F a [.int 0, .null, .null, .int 0, .null, .int 0, .int 0, .int 0, .int 0, .int 0, .int 0, .null, .int 0, .int 0, .null, .null, .int 0, .null, .null, .null, .int 0, .int 0, .null, .null]) h (a + 1) [.ref a] none (x_kl K a [(13, 0), (14, 6927), (14, 6076), (15, 400), (14, 5), (14, 10), (14, 400), (14, 6), (14, 6), (14, 6), (14, 8), (14, 48)]) F (x_hs h a 12 g_12) (a + 12) := by
  refine x_enterI (by decide) (Nat.le_of_ble_eq_true rfl) (fun p e s m args below meth c C hn hQ ls hl => ?_)
  have hS : va_S (oA O) s.heap s.heap [] := va_S.rf
  have hx := C.1
  have hb := C.2.1
  have hz0 := hQ.1
  have hl : lv_has ls 1 [(0, .ref a)] := hl
  have hQ := hQ.at (a := a) (ci := 12) (by rw [x_ku_at]) g_12
  rw [x_kl_one] at hQ
  refine lv_aload_n hx hb dX12_init_0 rfl (lv_at hl 0 rfl) ?_
  refine W.objInit hx hb C.2.2.2.1 (C.2.2.2.2.1 _ oi_12) (C.2.2.2.2.1 _ oi_inst) (C.2.2.2.2.1 _ oi_code) rfl (by rw [C.2.2.1]; exact hl.1) rfl dX12_init_1 (Nat.le_of_ble_eq_true rfl) (Nat.le_of_ble_eq_true rfl) ?_
  refine lv_aload_n hx hb dX12_init_4 rfl (lv_at hl 0 rfl) ?_
  refine lv_sipush (v := 6927) hx hb dX12_init_5 rfl ?_
  refine n_newa C hQ hS rfl (by intro k; simp [g_12]) 14 (Or.inl ⟨rfl, rfl⟩) ac_int (by decide) (N := 6927) (by decide) (by decide) (Nat.le_of_ble_eq_true rfl) (Nat.le_of_ble_eq_true rfl) dX12_init_8 (fun H hQ hS => ?_)
  have hQ : x_Q2 O (x_kl K a [(32, 0), (14, 6927)]) (x_fu F a [.int 0, .null, .null, .int 0, .null, .int 0, .int 0, .int 0, .int 0, .int 0, .int 0, .null, .int 0, .int 0, .null, .null, .int 0, .null, .null, .null, .int 0, .int 0, .null, .null]) (x_hs h a 2 g_12) H (a + 2) := hQ
  refine n_put C hQ hS (ci := 12) rfl inT_12 tyX12 tyX12_ok nmX12 1 (by decide) tw_1544 (Or.inr ⟨rfl, hn, rfl⟩) rfl rfl (Nat.le_of_ble_eq_true rfl) dX12_init_10 (fun H locs hQ hS => ?_)
  have hQ : x_Q2 O (x_kl K a [(32, 0), (14, 6927)]) (x_fu F a [.int 0, .ref (a + 1), .null, .int 0, .null, .int 0, .int 0, .int 0, .int 0, .int 0, .int 0, .null, .int 0, .int 0, .null, .null, .int 0, .null, .null, .null, .int 0, .int 0, .null, .null]) (x_hs h a 2 g_12) H (a + 2) := hQ
  refine lv_aload_n hx hb dX12_init_13 rfl (lv_at hl 0 rfl) ?_
  refine lv_sipush (v := 6076) hx hb dX12_init_14 rfl ?_
  refine n_newa C hQ hS rfl (by intro k; simp [g_12]) 14 (Or.inl ⟨rfl, rfl⟩) ac_int (by decide) (N := 6076) (by decide) (by decide) (Nat.le_of_ble_eq_true rfl) (Nat.le_of_ble_eq_true rfl) dX12_init_17 (fun H hQ hS => ?_)
  have hQ : x_Q2 O (x_kl K a [(32, 0), (14, 6927), (14, 6076)]) (x_fu F a [.int 0, .ref (a + 1), .null, .int 0, .null, .int 0, .int 0, .int 0, .int 0, .int 0, .int 0, .null, .int 0, .int 0, .null, .null, .int 0, .null, .null, .null, .int 0, .int 0, .null, .null]) (x_hs h a 3 g_12) H (a + 3) := hQ
  refine n_put C hQ hS (ci := 12) rfl inT_12 tyX12 tyX12_ok nmX12 2 (by decide) tw_1545 (Or.inr ⟨rfl, hn, rfl⟩) rfl rfl (Nat.le_of_ble_eq_true rfl) dX12_init_19 (fun H locs hQ hS => ?_)
  have hQ : x_Q2 O (x_kl K a [(32, 0), (14, 6927), (14, 6076)]) (x_fu F a [.int 0, .ref (a + 1), .ref (a + 2), .int 0, .null, .int 0, .int 0, .int 0, .int 0, .int 0, .int 0, .null, .int 0, .int 0, .null, .null, .int 0, .null, .null, .null, .int 0, .int 0, .null, .null]) (x_hs h a 3 g_12) H (a + 3) := hQ
  refine lv_aload_n hx hb dX12_init_22 rfl (lv_at hl 0 rfl) ?_
  refine lv_sipush (v := 400) hx hb dX12_init_23 rfl ?_
  refine n_newa C hQ hS rfl (by intro k; simp [g_12]) 15 (Or.inr (Or.inl ⟨rfl, rfl⟩)) ac_byte (by decide) (N := 400) (by decide) (by decide) (Nat.le_of_ble_eq_true rfl) (Nat.le_of_ble_eq_true rfl) dX12_init_26 (fun H hQ hS => ?_)
  have hQ : x_Q2 O (x_kl K a [(32, 0), (14, 6927), (14, 6076), (15, 400)]) (x_fu F a [.int 0, .ref (a + 1), .ref (a + 2), .int 0, .null, .int 0, .int 0, .int 0, .int 0, .int 0, .int 0, .null, .int 0, .int 0, .null, .null, .int 0, .null, .null, .null, .int 0, .int 0, .null, .null]) (x_hs h a 4 g_12) H (a + 4) := hQ
  refine n_put C hQ hS (ci := 12) rfl inT_12 tyX12 tyX12_ok nmX12 4 (by decide) tw_1547 (Or.inr ⟨rfl, hn, rfl⟩) rfl rfl (Nat.le_of_ble_eq_true rfl) dX12_init_28 (fun H locs hQ hS => ?_)
  have hQ : x_Q2 O (x_kl K a [(32, 0), (14, 6927), (14, 6076), (15, 400)]) (x_fu F a [.int 0, .ref (a + 1), .ref (a + 2), .int 0, .ref (a + 3), .int 0, .int 0, .int 0, .int 0, .int 0, .int 0, .null, .int 0, .int 0, .null, .null, .int 0, .null, .null, .null, .int 0, .int 0, .null, .null]) (x_hs h a 4 g_12) H (a + 4) := hQ
  refine lv_aload_n hx hb dX12_init_31 rfl (lv_at hl 0 rfl) ?_
  refine lv_iconst (v := (-1)) hx hb dX12_init_32 rfl ?_
  refine n_put C hQ hS (ci := 12) rfl inT_12 tyX12 tyX12_ok nmX12 10 (by decide) tw_1553 (Or.inl rfl) rfl rfl (Nat.le_of_ble_eq_true rfl) dX12_init_33 (fun H locs hQ hS => ?_)
  have hQ : x_Q2 O (x_kl K a [(32, 0), (14, 6927), (14, 6076), (15, 400)]) (x_fu F a [.int 0, .ref (a + 1), .ref (a + 2), .int 0, .ref (a + 3), .int 0, .int 0, .int 0, .int 0, .int 0, .int (-1), .null, .int 0, .int 0, .null, .null, .int 0, .null, .null, .null, .int 0, .int 0, .null, .null]) (x_hs h a 4 g_12) H (a + 4) := hQ
  refine lv_aload_n hx hb dX12_init_36 rfl (lv_at hl 0 rfl) ?_
  refine lv_iconst (v := 5) hx hb dX12_init_37 rfl ?_
  refine n_newa C hQ hS rfl (by intro k; simp [g_12]) 14 (Or.inl ⟨rfl, rfl⟩) ac_int (by decide) (N := 5) (by decide) (by decide) (Nat.le_of_ble_eq_true rfl) (Nat.le_of_ble_eq_true rfl) dX12_init_38 (fun H hQ hS => ?_)
  have hQ : x_Q2 O (x_kl K a [(32, 0), (14, 6927), (14, 6076), (15, 400), (14, 5)]) (x_fu F a [.int 0, .ref (a + 1), .ref (a + 2), .int 0, .ref (a + 3), .int 0, .int 0, .int 0, .int 0, .int 0, .int (-1), .null, .int 0, .int 0, .null, .null, .int 0, .null, .null, .null, .int 0, .int 0, .null, .null]) (x_hs h a 5 g_12) H (a + 5) := hQ
  refine n_put C hQ hS (ci := 12) rfl inT_12 tyX12 tyX12_ok nmX12 11 (by decide) tw_1554 (Or.inr ⟨rfl, hn, rfl⟩) rfl rfl (Nat.le_of_ble_eq_true rfl) dX12_init_40 (fun H locs hQ hS => ?_)
  have hQ : x_Q2 O (x_kl K a [(32, 0), (14, 6927), (14, 6076), (15, 400), (14, 5)]) (x_fu F a [.int 0, .ref (a + 1), .ref (a + 2), .int 0, .ref (a + 3), .int 0, .int 0, .int 0, .int 0, .int 0, .int (-1), .ref (a + 4), .int 0, .int 0, .null, .null, .int 0, .null, .null, .null, .int 0, .int 0, .null, .null]) (x_hs h a 5 g_12) H (a + 5) := hQ
  refine lv_aload_n hx hb dX12_init_43 rfl (lv_at hl 0 rfl) ?_
  refine lv_bipush (v := 10) hx hb dX12_init_44 rfl ?_
  refine n_newa C hQ hS rfl (by intro k; simp [g_12]) 14 (Or.inl ⟨rfl, rfl⟩) ac_int (by decide) (N := 10) (by decide) (by decide) (Nat.le_of_ble_eq_true rfl) (Nat.le_of_ble_eq_true rfl) dX12_init_46 (fun H hQ hS => ?_)
  have hQ : x_Q2 O (x_kl K a [(32, 0), (14, 6927), (14, 6076), (15, 400), (14, 5), (14, 10)]) (x_fu F a [.int 0, .ref (a + 1), .ref (a + 2), .int 0, .ref (a + 3), .int 0, .int 0, .int 0, .int 0, .int 0, .int (-1), .ref (a + 4), .int 0, .int 0, .null, .null, .int 0, .null, .null, .null, .int 0, .int 0, .null, .null]) (x_hs h a 6 g_12) H (a + 6) := hQ
  refine n_put C hQ hS (ci := 12) rfl inT_12 tyX12 tyX12_ok nmX12 14 (by decide) tw_1557 (Or.inr ⟨rfl, hn, rfl⟩) rfl rfl (Nat.le_of_ble_eq_true rfl) dX12_init_48 (fun H locs hQ hS => ?_)
  have hQ : x_Q2 O (x_kl K a [(32, 0), (14, 6927), (14, 6076), (15, 400), (14, 5), (14, 10)]) (x_fu F a [.int 0, .ref (a + 1), .ref (a + 2), .int 0, .ref (a + 3), .int 0, .int 0, .int 0, .int 0, .int 0, .int (-1), .ref (a + 4), .int 0, .int 0, .ref (a + 5), .null, .int 0, .null, .null, .null, .int 0, .int 0, .null, .null]) (x_hs h a 6 g_12) H (a + 6) := hQ
  refine lv_aload_n hx hb dX12_init_51 rfl (lv_at hl 0 rfl) ?_
  refine lv_sipush (v := 400) hx hb dX12_init_52 rfl ?_
  refine n_newa C hQ hS rfl (by intro k; simp [g_12]) 14 (Or.inl ⟨rfl, rfl⟩) ac_int (by decide) (N := 400) (by decide) (by decide) (Nat.le_of_ble_eq_true rfl) (Nat.le_of_ble_eq_true rfl) dX12_init_55 (fun H hQ hS => ?_)
  have hQ : x_Q2 O (x_kl K a [(32, 0), (14, 6927), (14, 6076), (15, 400), (14, 5), (14, 10), (14, 400)]) (x_fu F a [.int 0, .ref (a + 1), .ref (a + 2), .int 0, .ref (a + 3), .int 0, .int 0, .int 0, .int 0, .int 0, .int (-1), .ref (a + 4), .int 0, .int 0, .ref (a + 5), .null, .int 0, .null, .null, .null, .int 0, .int 0, .null, .null]) (x_hs h a 7 g_12) H (a + 7) := hQ
  refine n_put C hQ hS (ci := 12) rfl inT_12 tyX12 tyX12_ok nmX12 15 (by decide) tw_1558 (Or.inr ⟨rfl, hn, rfl⟩) rfl rfl (Nat.le_of_ble_eq_true rfl) dX12_init_57 (fun H locs hQ hS => ?_)
  have hQ : x_Q2 O (x_kl K a [(32, 0), (14, 6927), (14, 6076), (15, 400), (14, 5), (14, 10), (14, 400)]) (x_fu F a [.int 0, .ref (a + 1), .ref (a + 2), .int 0, .ref (a + 3), .int 0, .int 0, .int 0, .int 0, .int 0, .int (-1), .ref (a + 4), .int 0, .int 0, .ref (a + 5), .ref (a + 6), .int 0, .null, .null, .null, .int 0, .int 0, .null, .null]) (x_hs h a 7 g_12) H (a + 7) := hQ
  refine lv_aload_n hx hb dX12_init_60 rfl (lv_at hl 0 rfl) ?_
  refine lv_bipush (v := 6) hx hb dX12_init_61 rfl ?_
  refine n_newa C hQ hS rfl (by intro k; simp [g_12]) 14 (Or.inl ⟨rfl, rfl⟩) ac_int (by decide) (N := 6) (by decide) (by decide) (Nat.le_of_ble_eq_true rfl) (Nat.le_of_ble_eq_true rfl) dX12_init_63 (fun H hQ hS => ?_)
  have hQ : x_Q2 O (x_kl K a [(32, 0), (14, 6927), (14, 6076), (15, 400), (14, 5), (14, 10), (14, 400), (14, 6)]) (x_fu F a [.int 0, .ref (a + 1), .ref (a + 2), .int 0, .ref (a + 3), .int 0, .int 0, .int 0, .int 0, .int 0, .int (-1), .ref (a + 4), .int 0, .int 0, .ref (a + 5), .ref (a + 6), .int 0, .null, .null, .null, .int 0, .int 0, .null, .null]) (x_hs h a 8 g_12) H (a + 8) := hQ
  refine n_put C hQ hS (ci := 12) rfl inT_12 tyX12 tyX12_ok nmX12 17 (by decide) tw_1560 (Or.inr ⟨rfl, hn, rfl⟩) rfl rfl (Nat.le_of_ble_eq_true rfl) dX12_init_65 (fun H locs hQ hS => ?_)
  have hQ : x_Q2 O (x_kl K a [(32, 0), (14, 6927), (14, 6076), (15, 400), (14, 5), (14, 10), (14, 400), (14, 6)]) (x_fu F a [.int 0, .ref (a + 1), .ref (a + 2), .int 0, .ref (a + 3), .int 0, .int 0, .int 0, .int 0, .int 0, .int (-1), .ref (a + 4), .int 0, .int 0, .ref (a + 5), .ref (a + 6), .int 0, .ref (a + 7), .null, .null, .int 0, .int 0, .null, .null]) (x_hs h a 8 g_12) H (a + 8) := hQ
  refine lv_aload_n hx hb dX12_init_68 rfl (lv_at hl 0 rfl) ?_
  refine lv_bipush (v := 6) hx hb dX12_init_69 rfl ?_
  refine n_newa C hQ hS rfl (by intro k; simp [g_12]) 14 (Or.inl ⟨rfl, rfl⟩) ac_int (by decide) (N := 6) (by decide) (by decide) (Nat.le_of_ble_eq_true rfl) (Nat.le_of_ble_eq_true rfl) dX12_init_71 (fun H hQ hS => ?_)
  have hQ : x_Q2 O (x_kl K a [(32, 0), (14, 6927), (14, 6076), (15, 400), (14, 5), (14, 10), (14, 400), (14, 6), (14, 6)]) (x_fu F a [.int 0, .ref (a + 1), .ref (a + 2), .int 0, .ref (a + 3), .int 0, .int 0, .int 0, .int 0, .int 0, .int (-1), .ref (a + 4), .int 0, .int 0, .ref (a + 5), .ref (a + 6), .int 0, .ref (a + 7), .null, .null, .int 0, .int 0, .null, .null]) (x_hs h a 9 g_12) H (a + 9) := hQ
  refine n_put C hQ hS (ci := 12) rfl inT_12 tyX12 tyX12_ok nmX12 18 (by decide) tw_1561 (Or.inr ⟨rfl, hn, rfl⟩) rfl rfl (Nat.le_of_ble_eq_true rfl) dX12_init_73 (fun H locs hQ hS => ?_)
  have hQ : x_Q2 O (x_kl K a [(32, 0), (14, 6927), (14, 6076), (15, 400), (14, 5), (14, 10), (14, 400), (14, 6), (14, 6)]) (x_fu F a [.int 0, .ref (a + 1), .ref (a + 2), .int 0, .ref (a + 3), .int 0, .int 0, .int 0, .int 0, .int 0, .int (-1), .ref (a + 4), .int 0, .int 0, .ref (a + 5), .ref (a + 6), .int 0, .ref (a + 7), .ref (a + 8), .null, .int 0, .int 0, .null, .null]) (x_hs h a 9 g_12) H (a + 9) := hQ
  refine lv_aload_n hx hb dX12_init_76 rfl (lv_at hl 0 rfl) ?_
  refine lv_bipush (v := 6) hx hb dX12_init_77 rfl ?_
  refine n_newa C hQ hS rfl (by intro k; simp [g_12]) 14 (Or.inl ⟨rfl, rfl⟩) ac_int (by decide) (N := 6) (by decide) (by decide) (Nat.le_of_ble_eq_true rfl) (Nat.le_of_ble_eq_true rfl) dX12_init_79 (fun H hQ hS => ?_)
  have hQ : x_Q2 O (x_kl K a [(32, 0), (14, 6927), (14, 6076), (15, 400), (14, 5), (14, 10), (14, 400), (14, 6), (14, 6), (14, 6)]) (x_fu F a [.int 0, .ref (a + 1), .ref (a + 2), .int 0, .ref (a + 3), .int 0, .int 0, .int 0, .int 0, .int 0, .int (-1), .ref (a + 4), .int 0, .int 0, .ref (a + 5), .ref (a + 6), .int 0, .ref (a + 7), .ref (a + 8), .null, .int 0, .int 0, .null, .null]) (x_hs h a 10 g_12) H (a + 10) := hQ
  refine n_put C hQ hS (ci := 12) rfl inT_12 tyX12 tyX12_ok nmX12 19 (by decide) tw_1562 (Or.inr ⟨rfl, hn, rfl⟩) rfl rfl (Nat.le_of_ble_eq_true rfl) dX12_init_81 (fun H locs hQ hS => ?_)
  have hQ : x_Q2 O (x_kl K a [(32, 0), (14, 6927), (14, 6076), (15, 400), (14, 5), (14, 10), (14, 400), (14, 6), (14, 6), (14, 6)]) (x_fu F a [.int 0, .ref (a + 1), .ref (a + 2), .int 0, .ref (a + 3), .int 0, .int 0, .int 0, .int 0, .int 0, .int (-1), .ref (a + 4), .int 0, .int 0, .ref (a + 5), .ref (a + 6), .int 0, .ref (a + 7), .ref (a + 8), .ref (a + 9), .int 0, .int 0, .null, .null]) (x_hs h a 10 g_12) H (a + 10) := hQ
  refine lv_aload_n hx hb dX12_init_84 rfl (lv_at hl 0 rfl) ?_
  refine lv_bipush (v := 8) hx hb dX12_init_85 rfl ?_
  refine n_newa C hQ hS rfl (by intro k; simp [g_12]) 14 (Or.inl ⟨rfl, rfl⟩) ac_int (by decide) (N := 8) (by decide) (by decide) (Nat.le_of_ble_eq_true rfl) (Nat.le_of_ble_eq_true rfl) dX12_init_87 (fun H hQ hS => ?_)
  have hQ : x_Q2 O (x_kl K a [(32, 0), (14, 6927), (14, 6076), (15, 400), (14, 5), (14, 10), (14, 400), (14, 6), (14, 6), (14, 6), (14, 8)]) (x_fu F a [.int 0, .ref (a + 1), .ref (a + 2), .int 0, .ref (a + 3), .int 0, .int 0, .int 0, .int 0, .int 0, .int (-1), .ref (a + 4), .int 0, .int 0, .ref (a + 5), .ref (a + 6), .int 0, .ref (a + 7), .ref (a + 8), .ref (a + 9), .int 0, .int 0, .null, .null]) (x_hs h a 11 g_12) H (a + 11) := hQ
  refine n_put C hQ hS (ci := 12) rfl inT_12 tyX12 tyX12_ok nmX12 22 (by decide) tw_1565 (Or.inr ⟨rfl, hn, rfl⟩) rfl rfl (Nat.le_of_ble_eq_true rfl) dX12_init_89 (fun H locs hQ hS => ?_)
  have hQ : x_Q2 O (x_kl K a [(32, 0), (14, 6927), (14, 6076), (15, 400), (14, 5), (14, 10), (14, 400), (14, 6), (14, 6), (14, 6), (14, 8)]) (x_fu F a [.int 0, .ref (a + 1), .ref (a + 2), .int 0, .ref (a + 3), .int 0, .int 0, .int 0, .int 0, .int 0, .int (-1), .ref (a + 4), .int 0, .int 0, .ref (a + 5), .ref (a + 6), .int 0, .ref (a + 7), .ref (a + 8), .ref (a + 9), .int 0, .int 0, .ref (a + 10), .null]) (x_hs h a 11 g_12) H (a + 11) := hQ
  refine lv_aload_n hx hb dX12_init_92 rfl (lv_at hl 0 rfl) ?_
  refine lv_bipush (v := 48) hx hb dX12_init_93 rfl ?_
  refine n_newa C hQ hS rfl (by intro k; simp [g_12]) 14 (Or.inl ⟨rfl, rfl⟩) ac_int (by decide) (N := 48) (by decide) (by decide) (Nat.le_of_ble_eq_true rfl) (Nat.le_of_ble_eq_true rfl) dX12_init_95 (fun H hQ hS => ?_)
  have hQ : x_Q2 O (x_kl K a [(32, 0), (14, 6927), (14, 6076), (15, 400), (14, 5), (14, 10), (14, 400), (14, 6), (14, 6), (14, 6), (14, 8), (14, 48)]) (x_fu F a [.int 0, .ref (a + 1), .ref (a + 2), .int 0, .ref (a + 3), .int 0, .int 0, .int 0, .int 0, .int 0, .int (-1), .ref (a + 4), .int 0, .int 0, .ref (a + 5), .ref (a + 6), .int 0, .ref (a + 7), .ref (a + 8), .ref (a + 9), .int 0, .int 0, .ref (a + 10), .null]) (x_hs h a 12 g_12) H (a + 12) := hQ
  refine n_put C hQ hS (ci := 12) rfl inT_12 tyX12 tyX12_ok nmX12 23 (by decide) tw_1566 (Or.inr ⟨rfl, hn, rfl⟩) rfl rfl (Nat.le_of_ble_eq_true rfl) dX12_init_97 (fun H locs hQ hS => ?_)
  have hQ : x_Q2 O (x_kl K a [(32, 0), (14, 6927), (14, 6076), (15, 400), (14, 5), (14, 10), (14, 400), (14, 6), (14, 6), (14, 6), (14, 8), (14, 48)]) (x_fu F a [.int 0, .ref (a + 1), .ref (a + 2), .int 0, .ref (a + 3), .int 0, .int 0, .int 0, .int 0, .int 0, .int (-1), .ref (a + 4), .int 0, .int 0, .ref (a + 5), .ref (a + 6), .int 0, .ref (a + 7), .ref (a + 8), .ref (a + 9), .int 0, .int 0, .ref (a + 10), .ref (a + 11)]) (x_hs h a 12 g_12) H (a + 12) := hQ
  exact r_vret C (hQ.fin 12 (by decide) (by simp [x_fs, x_hs, va_rf, g_12, show ¬ (a + 12 ≤ a) by omega])) hS (Nat.le_of_ble_eq_true rfl) (Nat.le_of_ble_eq_true rfl) dX12_init_100
def g_7 : XG := (fun j k => if j = 11 ∧ k = 2 then 1 else if j = 14 ∧ k = 2 then 1 else if j = 17 ∧ k = 2 then 1 else if j = 20 ∧ k = 2 then 1 else if j = 23 ∧ k = 2 then 1 else if j = 26 ∧ k = 2 then 1 else if j = 29 ∧ k = 2 then 1 else if j = 32 ∧ k = 2 then 1 else 0, fun _ _ => 0)
theorem oi_7 : Cond.methodLink RX7 3 Lib.objectInit ∈ TB := TB_of (tin_1 (List.mem_of_getElem? (i := 89) (by decide +kernel))) rfl
theorem kc_7 : Cond.code yX7_init cX7_init 2 none ∈ TB := TB_of (tin_1 (List.mem_of_getElem? (i := 88) (by decide +kernel))) rfl
theorem ki_7 : Cond.instanceMethod yX7_init ∈ TB := TB_of (tin_1 (List.mem_of_getElem? (i := 87) (by decide +kernel))) rfl
theorem mk_7 : x_MK yX7_init cX7_init 2 0 := ⟨kc_7, ki_7, tw_108, by decide, by decide, by decide +kernel, rfl⟩
set_option maxRecDepth 20000 in
theorem S_X7_init {l : Launch} {O : XO} {K : XK} {F : Nat → List Value} {h : XH} {a : Nat} : x_MI l O yX7_init cX7_init 2 none 3 80 33 856 (x_ku K a (27, 0)) (x_fu F a [.null, .int 0, .null, .null, .int 0, .null, .int 0, .int 0, .int 0, .null, .int 0, .null, .int 0, .null, .null, .int 0, .null]) h (a + 1) [.ref a] none (x_kl K a [(8, 0), (14, 156), (14, 6), (14, 120), (16, 8), (17, 3), (17, 3), (14, 6), (14, 6), (14, 20), (3, 0), (5, 0), (14, 52), (3, 0), (5, 0), (14, 52), (3, 0), (5, 0), (14, 52), (3, 0), (5, 0), (14, 52), (3, 0), (5, 0), (14, 52), (3, 0), (5, 0), (14, 52), (3, 0), (5, 0), (14, 52), (3, 0), (5, 0), (14, 52)]) F (x_hs h a 34 g_7) (a + 34) := by
  refine x_enterI (by decide) (Nat.le_of_ble_eq_true rfl) (fun p e s m args below meth c C hn hQ ls hl => ?_)
  have hS : va_S (oA O) s.heap s.heap [] := va_S.rf
  have hx := C.1
  have hb := C.2.1
  have hz0 := hQ.1
  have hl : lv_has ls 2 [(0, .ref a)] := hl
  have hQ := hQ.at (a := a) (ci := 7) (by rw [x_ku_at]) g_7
  rw [x_kl_one] at hQ
  refine lv_aload_n hx hb dX7_init_0 rfl (lv_at hl 0 rfl) ?_
  refine W.objInit hx hb C.2.2.2.1 (C.2.2.2.2.1 _ oi_7) (C.2.2.2.2.1 _ oi_inst) (C.2.2.2.2.1 _ oi_code) rfl (by rw [C.2.2.1]; exact hl.1) rfl dX7_init_1 (Nat.le_of_ble_eq_true rfl) (Nat.le_of_ble_eq_true rfl) ?_
  refine lv_aload_n hx hb dX7_init_4 rfl (lv_at hl 0 rfl) ?_
  refine lv_sipush (v := 156) hx hb dX7_init_5 rfl ?_
  refine n_newa C hQ hS rfl (by intro k; simp [g_7]) 14 (Or.inl ⟨rfl, rfl⟩) ac_int (by decide) (N := 156) (by decide) (by decide) (Nat.le_of_ble_eq_true rfl) (Nat.le_of_ble_eq_true rfl) dX7_init_8 (fun H hQ hS => ?_)
  have hQ : x_Q2 O (x_kl K a [(27, 0), (14, 156)]) (x_fu F a [.null, .int 0, .null, .null, .int 0, .null, .int 0, .int 0, .int 0, .null, .int 0, .null, .int 0, .null, .null, .int 0, .null]) (x_hs h a 2 g_7) H (a + 2) := hQ
  refine n_put C hQ hS (ci := 7) rfl inT_7 tyX7 tyX7_ok nmX7 0 (by decide) tw_285 (Or.inr ⟨rfl, hn, rfl⟩) rfl rfl (Nat.le_of_ble_eq_true rfl) dX7_init_10 (fun H locs hQ hS => ?_)
  have hQ : x_Q2 O (x_kl K a [(27, 0), (14, 156)]) (x_fu F a [.ref (a + 1), .int 0, .null, .null, .int 0, .null, .int 0, .int 0, .int 0, .null, .int 0, .null, .int 0, .null, .null, .int 0, .null]) (x_hs h a 2 g_7) H (a + 2) := hQ
  refine lv_aload_n hx hb dX7_init_13 rfl (lv_at hl 0 rfl) ?_
  refine lv_iconst (v := 0) hx hb dX7_init_14 rfl ?_
  refine n_put C hQ hS (ci := 7) rfl inT_7 tyX7 tyX7_ok nmX7 1 (by decide) tw_289 (Or.inl rfl) rfl rfl (Nat.le_of_ble_eq_true rfl) dX7_init_15 (fun H locs hQ hS => ?_)
  have hQ : x_Q2 O (x_kl K a [(27, 0), (14, 156)]) (x_fu F a [.ref (a + 1), .int 0, .null, .null, .int 0, .null, .int 0, .int 0, .int 0, .null, .int 0, .null, .int 0, .null, .null, .int 0, .null]) (x_hs h a 2 g_7) H (a + 2) := hQ
  refine lv_aload_n hx hb dX7_init_18 rfl (lv_at hl 0 rfl) ?_
  refine lv_bipush (v := 6) hx hb dX7_init_19 rfl ?_
  refine n_newa C hQ hS rfl (by intro k; simp [g_7]) 14 (Or.inl ⟨rfl, rfl⟩) ac_int (by decide) (N := 6) (by decide) (by decide) (Nat.le_of_ble_eq_true rfl) (Nat.le_of_ble_eq_true rfl) dX7_init_21 (fun H hQ hS => ?_)
  have hQ : x_Q2 O (x_kl K a [(27, 0), (14, 156), (14, 6)]) (x_fu F a [.ref (a + 1), .int 0, .null, .null, .int 0, .null, .int 0, .int 0, .int 0, .null, .int 0, .null, .int 0, .null, .null, .int 0, .null]) (x_hs h a 3 g_7) H (a + 3) := hQ
  refine n_put C hQ hS (ci := 7) rfl inT_7 tyX7 tyX7_ok nmX7 2 (by decide) tw_291 (Or.inr ⟨rfl, hn, rfl⟩) rfl rfl (Nat.le_of_ble_eq_true rfl) dX7_init_23 (fun H locs hQ hS => ?_)
  have hQ : x_Q2 O (x_kl K a [(27, 0), (14, 156), (14, 6)]) (x_fu F a [.ref (a + 1), .int 0, .ref (a + 2), .null, .int 0, .null, .int 0, .int 0, .int 0, .null, .int 0, .null, .int 0, .null, .null, .int 0, .null]) (x_hs h a 3 g_7) H (a + 3) := hQ
  refine lv_aload_n hx hb dX7_init_26 rfl (lv_at hl 0 rfl) ?_
  refine lv_bipush (v := 120) hx hb dX7_init_27 rfl ?_
  refine n_newa C hQ hS rfl (by intro k; simp [g_7]) 14 (Or.inl ⟨rfl, rfl⟩) ac_int (by decide) (N := 120) (by decide) (by decide) (Nat.le_of_ble_eq_true rfl) (Nat.le_of_ble_eq_true rfl) dX7_init_29 (fun H hQ hS => ?_)
  have hQ : x_Q2 O (x_kl K a [(27, 0), (14, 156), (14, 6), (14, 120)]) (x_fu F a [.ref (a + 1), .int 0, .ref (a + 2), .null, .int 0, .null, .int 0, .int 0, .int 0, .null, .int 0, .null, .int 0, .null, .null, .int 0, .null]) (x_hs h a 4 g_7) H (a + 4) := hQ
  refine n_put C hQ hS (ci := 7) rfl inT_7 tyX7 tyX7_ok nmX7 3 (by decide) tw_294 (Or.inr ⟨rfl, hn, rfl⟩) rfl rfl (Nat.le_of_ble_eq_true rfl) dX7_init_31 (fun H locs hQ hS => ?_)
  have hQ : x_Q2 O (x_kl K a [(27, 0), (14, 156), (14, 6), (14, 120)]) (x_fu F a [.ref (a + 1), .int 0, .ref (a + 2), .ref (a + 3), .int 0, .null, .int 0, .int 0, .int 0, .null, .int 0, .null, .int 0, .null, .null, .int 0, .null]) (x_hs h a 4 g_7) H (a + 4) := hQ
  refine lv_aload_n hx hb dX7_init_34 rfl (lv_at hl 0 rfl) ?_
  refine lv_iconst (v := 0) hx hb dX7_init_35 rfl ?_
  refine n_put C hQ hS (ci := 7) rfl inT_7 tyX7 tyX7_ok nmX7 4 (by decide) tw_296 (Or.inl rfl) rfl rfl (Nat.le_of_ble_eq_true rfl) dX7_init_36 (fun H locs hQ hS => ?_)
  have hQ : x_Q2 O (x_kl K a [(27, 0), (14, 156), (14, 6), (14, 120)]) (x_fu F a [.ref (a + 1), .int 0, .ref (a + 2), .ref (a + 3), .int 0, .null, .int 0, .int 0, .int 0, .null, .int 0, .null, .int 0, .null, .null, .int 0, .null]) (x_hs h a 4 g_7) H (a + 4) := hQ
  refine lv_aload_n hx hb dX7_init_39 rfl (lv_at hl 0 rfl) ?_
  refine lv_bipush (v := 8) hx hb dX7_init_40 rfl ?_
  refine n_anew C hQ hS rfl (by intro k; simp [g_7]) 19 (Or.inl ⟨rfl, rfl⟩) tw_195 (by decide) (N := 8) (by decide) (by decide) (Nat.le_of_ble_eq_true rfl) (Nat.le_of_ble_eq_true rfl) dX7_init_42 (fun H hQ hS => ?_)
  have hQ : x_Q2 O (x_kl K a [(27, 0), (14, 156), (14, 6), (14, 120), (19, 8)]) (x_fu F a [.ref (a + 1), .int 0, .ref (a + 2), .ref (a + 3), .int 0, .null, .int 0, .int 0, .int 0, .null, .int 0, .null, .int 0, .null, .null, .int 0, .null]) (x_hs h a 5 g_7) H (a + 5) := hQ
  refine n_put C hQ hS (ci := 7) rfl inT_7 tyX7 tyX7_ok nmX7 5 (by decide) tw_301 (Or.inr ⟨rfl, hn, rfl⟩) rfl rfl (Nat.le_of_ble_eq_true rfl) dX7_init_45 (fun H locs hQ hS => ?_)
  have hQ : x_Q2 O (x_kl K a [(27, 0), (14, 156), (14, 6), (14, 120), (19, 8)]) (x_fu F a [.ref (a + 1), .int 0, .ref (a + 2), .ref (a + 3), .int 0, .ref (a + 4), .int 0, .int 0, .int 0, .null, .int 0, .null, .int 0, .null, .null, .int 0, .null]) (x_hs h a 5 g_7) H (a + 5) := hQ
  refine lv_aload_n hx hb dX7_init_48 rfl (lv_at hl 0 rfl) ?_
  refine lv_iconst (v := 0) hx hb dX7_init_49 rfl ?_
  refine n_put C hQ hS (ci := 7) rfl inT_7 tyX7 tyX7_ok nmX7 6 (by decide) tw_306 (Or.inl rfl) rfl rfl (Nat.le_of_ble_eq_true rfl) dX7_init_50 (fun H locs hQ hS => ?_)
  have hQ : x_Q2 O (x_kl K a [(27, 0), (14, 156), (14, 6), (14, 120), (19, 8)]) (x_fu F a [.ref (a + 1), .int 0, .ref (a + 2), .ref (a + 3), .int 0, .ref (a + 4), .int 0, .int 0, .int 0, .null, .int 0, .null, .int 0, .null, .null, .int 0, .null]) (x_hs h a 5 g_7) H (a + 5) := hQ
  refine lv_aload_n hx hb dX7_init_53 rfl (lv_at hl 0 rfl) ?_
  refine lv_iconst (v := 0) hx hb dX7_init_54 rfl ?_
  refine n_put C hQ hS (ci := 7) rfl inT_7 tyX7 tyX7_ok nmX7 7 (by decide) tw_309 (Or.inl rfl) rfl rfl (Nat.le_of_ble_eq_true rfl) dX7_init_55 (fun H locs hQ hS => ?_)
  have hQ : x_Q2 O (x_kl K a [(27, 0), (14, 156), (14, 6), (14, 120), (19, 8)]) (x_fu F a [.ref (a + 1), .int 0, .ref (a + 2), .ref (a + 3), .int 0, .ref (a + 4), .int 0, .int 0, .int 0, .null, .int 0, .null, .int 0, .null, .null, .int 0, .null]) (x_hs h a 5 g_7) H (a + 5) := hQ
  refine lv_aload_n hx hb dX7_init_58 rfl (lv_at hl 0 rfl) ?_
  refine lv_iconst (v := 0) hx hb dX7_init_59 rfl ?_
  refine n_put C hQ hS (ci := 7) rfl inT_7 tyX7 tyX7_ok nmX7 8 (by decide) tw_313 (Or.inl rfl) rfl rfl (Nat.le_of_ble_eq_true rfl) dX7_init_60 (fun H locs hQ hS => ?_)
  have hQ : x_Q2 O (x_kl K a [(27, 0), (14, 156), (14, 6), (14, 120), (19, 8)]) (x_fu F a [.ref (a + 1), .int 0, .ref (a + 2), .ref (a + 3), .int 0, .ref (a + 4), .int 0, .int 0, .int 0, .null, .int 0, .null, .int 0, .null, .null, .int 0, .null]) (x_hs h a 5 g_7) H (a + 5) := hQ
  refine lv_aload_n hx hb dX7_init_63 rfl (lv_at hl 0 rfl) ?_
  refine lv_iconst (v := 3) hx hb dX7_init_64 rfl ?_
  refine n_anew C hQ hS rfl (by intro k; simp [g_7]) 17 (Or.inr ⟨rfl, rfl⟩) tw_197 (by decide) (N := 3) (by decide) (by decide) (Nat.le_of_ble_eq_true rfl) (Nat.le_of_ble_eq_true rfl) dX7_init_65 (fun H hQ hS => ?_)
  have hQ : x_Q2 O (x_kl K a [(27, 0), (14, 156), (14, 6), (14, 120), (19, 8), (17, 3)]) (x_fu F a [.ref (a + 1), .int 0, .ref (a + 2), .ref (a + 3), .int 0, .ref (a + 4), .int 0, .int 0, .int 0, .null, .int 0, .null, .int 0, .null, .null, .int 0, .null]) (x_hs h a 6 g_7) H (a + 6) := hQ
  refine n_put C hQ hS (ci := 7) rfl inT_7 tyX7 tyX7_ok nmX7 9 (by decide) tw_315 (Or.inr ⟨rfl, hn, rfl⟩) rfl rfl (Nat.le_of_ble_eq_true rfl) dX7_init_68 (fun H locs hQ hS => ?_)
  have hQ : x_Q2 O (x_kl K a [(27, 0), (14, 156), (14, 6), (14, 120), (19, 8), (17, 3)]) (x_fu F a [.ref (a + 1), .int 0, .ref (a + 2), .ref (a + 3), .int 0, .ref (a + 4), .int 0, .int 0, .int 0, .ref (a + 5), .int 0, .null, .int 0, .null, .null, .int 0, .null]) (x_hs h a 6 g_7) H (a + 6) := hQ
  refine lv_aload_n hx hb dX7_init_71 rfl (lv_at hl 0 rfl) ?_
  refine lv_iconst (v := 0) hx hb dX7_init_72 rfl ?_
  refine n_put C hQ hS (ci := 7) rfl inT_7 tyX7 tyX7_ok nmX7 10 (by decide) tw_317 (Or.inl rfl) rfl rfl (Nat.le_of_ble_eq_true rfl) dX7_init_73 (fun H locs hQ hS => ?_)
  have hQ : x_Q2 O (x_kl K a [(27, 0), (14, 156), (14, 6), (14, 120), (19, 8), (17, 3)]) (x_fu F a [.ref (a + 1), .int 0, .ref (a + 2), .ref (a + 3), .int 0, .ref (a + 4), .int 0, .int 0, .int 0, .ref (a + 5), .int 0, .null, .int 0, .null, .null, .int 0, .null]) (x_hs h a 6 g_7) H (a + 6) := hQ
  refine lv_aload_n hx hb dX7_init_76 rfl (lv_at hl 0 rfl) ?_
  refine lv_iconst (v := 3) hx hb dX7_init_77 rfl ?_
  refine n_anew C hQ hS rfl (by intro k; simp [g_7]) 17 (Or.inr ⟨rfl, rfl⟩) tw_197 (by decide) (N := 3) (by decide) (by decide) (Nat.le_of_ble_eq_true rfl) (Nat.le_of_ble_eq_true rfl) dX7_init_78 (fun H hQ hS => ?_)
  have hQ : x_Q2 O (x_kl K a [(27, 0), (14, 156), (14, 6), (14, 120), (19, 8), (17, 3), (17, 3)]) (x_fu F a [.ref (a + 1), .int 0, .ref (a + 2), .ref (a + 3), .int 0, .ref (a + 4), .int 0, .int 0, .int 0, .ref (a + 5), .int 0, .null, .int 0, .null, .null, .int 0, .null]) (x_hs h a 7 g_7) H (a + 7) := hQ
  refine n_put C hQ hS (ci := 7) rfl inT_7 tyX7 tyX7_ok nmX7 11 (by decide) tw_319 (Or.inr ⟨rfl, hn, rfl⟩) rfl rfl (Nat.le_of_ble_eq_true rfl) dX7_init_81 (fun H locs hQ hS => ?_)
  have hQ : x_Q2 O (x_kl K a [(27, 0), (14, 156), (14, 6), (14, 120), (19, 8), (17, 3), (17, 3)]) (x_fu F a [.ref (a + 1), .int 0, .ref (a + 2), .ref (a + 3), .int 0, .ref (a + 4), .int 0, .int 0, .int 0, .ref (a + 5), .int 0, .ref (a + 6), .int 0, .null, .null, .int 0, .null]) (x_hs h a 7 g_7) H (a + 7) := hQ
  refine lv_aload_n hx hb dX7_init_84 rfl (lv_at hl 0 rfl) ?_
  refine lv_iconst (v := 0) hx hb dX7_init_85 rfl ?_
  refine n_put C hQ hS (ci := 7) rfl inT_7 tyX7 tyX7_ok nmX7 12 (by decide) tw_321 (Or.inl rfl) rfl rfl (Nat.le_of_ble_eq_true rfl) dX7_init_86 (fun H locs hQ hS => ?_)
  have hQ : x_Q2 O (x_kl K a [(27, 0), (14, 156), (14, 6), (14, 120), (19, 8), (17, 3), (17, 3)]) (x_fu F a [.ref (a + 1), .int 0, .ref (a + 2), .ref (a + 3), .int 0, .ref (a + 4), .int 0, .int 0, .int 0, .ref (a + 5), .int 0, .ref (a + 6), .int 0, .null, .null, .int 0, .null]) (x_hs h a 7 g_7) H (a + 7) := hQ
  refine lv_aload_n hx hb dX7_init_89 rfl (lv_at hl 0 rfl) ?_
  refine lv_bipush (v := 6) hx hb dX7_init_90 rfl ?_
  refine n_newa C hQ hS rfl (by intro k; simp [g_7]) 14 (Or.inl ⟨rfl, rfl⟩) ac_int (by decide) (N := 6) (by decide) (by decide) (Nat.le_of_ble_eq_true rfl) (Nat.le_of_ble_eq_true rfl) dX7_init_92 (fun H hQ hS => ?_)
  have hQ : x_Q2 O (x_kl K a [(27, 0), (14, 156), (14, 6), (14, 120), (19, 8), (17, 3), (17, 3), (14, 6)]) (x_fu F a [.ref (a + 1), .int 0, .ref (a + 2), .ref (a + 3), .int 0, .ref (a + 4), .int 0, .int 0, .int 0, .ref (a + 5), .int 0, .ref (a + 6), .int 0, .null, .null, .int 0, .null]) (x_hs h a 8 g_7) H (a + 8) := hQ
  refine n_put C hQ hS (ci := 7) rfl inT_7 tyX7 tyX7_ok nmX7 13 (by decide) tw_324 (Or.inr ⟨rfl, hn, rfl⟩) rfl rfl (Nat.le_of_ble_eq_true rfl) dX7_init_94 (fun H locs hQ hS => ?_)
  have hQ : x_Q2 O (x_kl K a [(27, 0), (14, 156), (14, 6), (14, 120), (19, 8), (17, 3), (17, 3), (14, 6)]) (x_fu F a [.ref (a + 1), .int 0, .ref (a + 2), .ref (a + 3), .int 0, .ref (a + 4), .int 0, .int 0, .int 0, .ref (a + 5), .int 0, .ref (a + 6), .int 0, .ref (a + 7), .null, .int 0, .null]) (x_hs h a 8 g_7) H (a + 8) := hQ
  refine lv_aload_n hx hb dX7_init_97 rfl (lv_at hl 0 rfl) ?_
  refine lv_bipush (v := 6) hx hb dX7_init_98 rfl ?_
  refine n_newa C hQ hS rfl (by intro k; simp [g_7]) 14 (Or.inl ⟨rfl, rfl⟩) ac_int (by decide) (N := 6) (by decide) (by decide) (Nat.le_of_ble_eq_true rfl) (Nat.le_of_ble_eq_true rfl) dX7_init_100 (fun H hQ hS => ?_)
  have hQ : x_Q2 O (x_kl K a [(27, 0), (14, 156), (14, 6), (14, 120), (19, 8), (17, 3), (17, 3), (14, 6), (14, 6)]) (x_fu F a [.ref (a + 1), .int 0, .ref (a + 2), .ref (a + 3), .int 0, .ref (a + 4), .int 0, .int 0, .int 0, .ref (a + 5), .int 0, .ref (a + 6), .int 0, .ref (a + 7), .null, .int 0, .null]) (x_hs h a 9 g_7) H (a + 9) := hQ
  refine n_put C hQ hS (ci := 7) rfl inT_7 tyX7 tyX7_ok nmX7 14 (by decide) tw_327 (Or.inr ⟨rfl, hn, rfl⟩) rfl rfl (Nat.le_of_ble_eq_true rfl) dX7_init_102 (fun H locs hQ hS => ?_)
  have hQ : x_Q2 O (x_kl K a [(27, 0), (14, 156), (14, 6), (14, 120), (19, 8), (17, 3), (17, 3), (14, 6), (14, 6)]) (x_fu F a [.ref (a + 1), .int 0, .ref (a + 2), .ref (a + 3), .int 0, .ref (a + 4), .int 0, .int 0, .int 0, .ref (a + 5), .int 0, .ref (a + 6), .int 0, .ref (a + 7), .ref (a + 8), .int 0, .null]) (x_hs h a 9 g_7) H (a + 9) := hQ
  refine lv_aload_n hx hb dX7_init_105 rfl (lv_at hl 0 rfl) ?_
  refine lv_iconst (v := 0) hx hb dX7_init_106 rfl ?_
  refine n_put C hQ hS (ci := 7) rfl inT_7 tyX7 tyX7_ok nmX7 15 (by decide) tw_329 (Or.inl rfl) rfl rfl (Nat.le_of_ble_eq_true rfl) dX7_init_107 (fun H locs hQ hS => ?_)
  have hQ : x_Q2 O (x_kl K a [(27, 0), (14, 156), (14, 6), (14, 120), (19, 8), (17, 3), (17, 3), (14, 6), (14, 6)]) (x_fu F a [.ref (a + 1), .int 0, .ref (a + 2), .ref (a + 3), .int 0, .ref (a + 4), .int 0, .int 0, .int 0, .ref (a + 5), .int 0, .ref (a + 6), .int 0, .ref (a + 7), .ref (a + 8), .int 0, .null]) (x_hs h a 9 g_7) H (a + 9) := hQ
  refine lv_aload_n hx hb dX7_init_110 rfl (lv_at hl 0 rfl) ?_
  refine lv_bipush (v := 20) hx hb dX7_init_111 rfl ?_
  refine n_newa C hQ hS rfl (by intro k; simp [g_7]) 14 (Or.inl ⟨rfl, rfl⟩) ac_int (by decide) (N := 20) (by decide) (by decide) (Nat.le_of_ble_eq_true rfl) (Nat.le_of_ble_eq_true rfl) dX7_init_113 (fun H hQ hS => ?_)
  have hQ : x_Q2 O (x_kl K a [(27, 0), (14, 156), (14, 6), (14, 120), (19, 8), (17, 3), (17, 3), (14, 6), (14, 6), (14, 20)]) (x_fu F a [.ref (a + 1), .int 0, .ref (a + 2), .ref (a + 3), .int 0, .ref (a + 4), .int 0, .int 0, .int 0, .ref (a + 5), .int 0, .ref (a + 6), .int 0, .ref (a + 7), .ref (a + 8), .int 0, .null]) (x_hs h a 10 g_7) H (a + 10) := hQ
  refine n_put C hQ hS (ci := 7) rfl inT_7 tyX7 tyX7_ok nmX7 16 (by decide) tw_331 (Or.inr ⟨rfl, hn, rfl⟩) rfl rfl (Nat.le_of_ble_eq_true rfl) dX7_init_115 (fun H locs hQ hS => ?_)
  have hQ : x_Q2 O (x_kl K a [(27, 0), (14, 156), (14, 6), (14, 120), (19, 8), (17, 3), (17, 3), (14, 6), (14, 6), (14, 20)]) (x_fu F a [.ref (a + 1), .int 0, .ref (a + 2), .ref (a + 3), .int 0, .ref (a + 4), .int 0, .int 0, .int 0, .ref (a + 5), .int 0, .ref (a + 6), .int 0, .ref (a + 7), .ref (a + 8), .int 0, .ref (a + 9)]) (x_hs h a 10 g_7) H (a + 10) := hQ
  refine lv_iconst (v := 0) hx hb dX7_init_118 rfl ?_
  refine lv_istore_n (lv' := [(1, _), (0, _)]) hx hb dX7_init_119 rfl hl (Nat.le_of_ble_eq_true rfl) rfl (fun ls hl => ?_)
  have hl : lv_has ls 2 [(1, .int 0), (0, .ref a)] := hl
  rw [← x_rk_0 (h := x_hs h a 10 g_7) (b := a + 4)] at hQ
  refine lv_iload_n hx hb dX7_init_120 rfl (lv_at hl 0 rfl) ?_
  refine lv_bipush (v := 8) hx hb dX7_init_121 rfl ?_
  refine lv_icmp_ge (tgt := 145) hx hb dX7_init_123 rfl (fun hc => absurd hc (by decide)) (fun _ => ?_)
  refine lv_aload_n hx hb dX7_init_126 rfl (lv_at hl 1 rfl) ?_
  refine n_get C hQ (ci := 7) rfl inT_7 5 (by decide) tw_301 (v := .ref (a + 4)) rfl dX7_init_127 ?_
  refine lv_iload_n hx hb dX7_init_130 rfl (lv_at hl 0 rfl) ?_
  refine r_new C hQ hS (ci := 2) rfl inT_2 tyX2 tyX2_ok tw_195 tw_199 tw_109 (fs := [.int 0, .int 0, .int 0, .int 0, .null, .null]) (by decide) (Nat.le_of_ble_eq_true rfl) (Nat.le_of_ble_eq_true rfl) dX7_init_131 (fun H hQ hS => ?_)
  refine lv_dup hx hb dX7_init_134 rfl ?_
  refine r_init C hQ hS (S_X2_init (a := a + 10)) mk_2 (host := "MemoryHouse") (As := []) (Or.inr (tin_1 (List.mem_of_getElem? (i := 95) (by decide +kernel)))) (Nat.le_of_ble_eq_true rfl) (Nat.le_of_ble_eq_true rfl) rfl hl.1 (Nat.le_of_ble_eq_true rfl) dX7_init_135 ⟨Nat.le_of_ble_eq_true rfl, Nat.le_of_ble_eq_true rfl⟩ rfl (fun H locs hQ hS => ?_)
  rw [x_rk_hs (by omega)] at hQ
  rw [x_kl_app (m := 10) rfl, x_hs_app (g := g_7) (by intro j hj k; rcases (show j = 0 ∨ j = 1 ∨ j = 2 by omega) with rfl | rfl | rfl <;> simp [g_7, g_2])] at hQ
  have hQ : x_Q2 O (x_kl K a [(27, 0), (14, 156), (14, 6), (14, 120), (19, 8), (17, 3), (17, 3), (14, 6), (14, 6), (14, 20), (3, 0), (5, 0), (14, 52)]) (x_fu F a [.ref (a + 1), .int 0, .ref (a + 2), .ref (a + 3), .int 0, .ref (a + 4), .int 0, .int 0, .int 0, .ref (a + 5), .int 0, .ref (a + 6), .int 0, .ref (a + 7), .ref (a + 8), .int 0, .ref (a + 9)]) (x_rk (x_hs h a 13 g_7) (a + 4) 0) H (a + 13) := hQ
  refine r_aast C hQ hS (by rw [x_kl_j 4 rfl]) (by rw [x_kl_j 10 rfl]) (by rw [x_kl_j 4 rfl]; decide) dX7_init_138 (fun H locs hQ hS => ?_)
  rw [x_rk_s (i := 0) (by decide) (by omega)] at hQ
  have hQ : x_Q2 O (x_kl K a [(27, 0), (14, 156), (14, 6), (14, 120), (19, 8), (17, 3), (17, 3), (14, 6), (14, 6), (14, 20), (3, 0), (5, 0), (14, 52)]) (x_fu F a [.ref (a + 1), .int 0, .ref (a + 2), .ref (a + 3), .int 0, .ref (a + 4), .int 0, .int 0, .int 0, .ref (a + 5), .int 0, .ref (a + 6), .int 0, .ref (a + 7), .ref (a + 8), .int 0, .ref (a + 9)]) (x_rk (x_hs h a 13 g_7) (a + 4) 1) H (a + 13) := hQ
  refine lv_iinc (k := 0) (v := 1) (lv' := [(1, _), (0, _)]) hx hb dX7_init_139 hl rfl (by decide) (Nat.le_of_ble_eq_true rfl) rfl (fun ls hl => ?_)
  have hl : lv_has ls 2 [(1, .int 1), (0, .ref a)] := hl
  refine lv_goto (tgt := 120) hx hb dX7_init_142 rfl ?_
  refine lv_iload_n hx hb dX7_init_120 rfl (lv_at hl 0 rfl) ?_
  refine lv_bipush (v := 8) hx hb dX7_init_121 rfl ?_
  refine lv_icmp_ge (tgt := 145) hx hb dX7_init_123 rfl (fun hc => absurd hc (by decide)) (fun _ => ?_)
  refine lv_aload_n hx hb dX7_init_126 rfl (lv_at hl 1 rfl) ?_
  refine n_get C hQ (ci := 7) rfl inT_7 5 (by decide) tw_301 (v := .ref (a + 4)) rfl dX7_init_127 ?_
  refine lv_iload_n hx hb dX7_init_130 rfl (lv_at hl 0 rfl) ?_
  refine r_new C hQ hS (ci := 2) rfl inT_2 tyX2 tyX2_ok tw_195 tw_199 tw_109 (fs := [.int 0, .int 0, .int 0, .int 0, .null, .null]) (by decide) (Nat.le_of_ble_eq_true rfl) (Nat.le_of_ble_eq_true rfl) dX7_init_131 (fun H hQ hS => ?_)
  refine lv_dup hx hb dX7_init_134 rfl ?_
  refine r_init C hQ hS (S_X2_init (a := a + 13)) mk_2 (host := "MemoryHouse") (As := []) (Or.inr (tin_1 (List.mem_of_getElem? (i := 95) (by decide +kernel)))) (Nat.le_of_ble_eq_true rfl) (Nat.le_of_ble_eq_true rfl) rfl hl.1 (Nat.le_of_ble_eq_true rfl) dX7_init_135 ⟨Nat.le_of_ble_eq_true rfl, Nat.le_of_ble_eq_true rfl⟩ rfl (fun H locs hQ hS => ?_)
  rw [x_rk_hs (by omega)] at hQ
  rw [x_kl_app (m := 13) rfl, x_hs_app (g := g_7) (by intro j hj k; rcases (show j = 0 ∨ j = 1 ∨ j = 2 by omega) with rfl | rfl | rfl <;> simp [g_7, g_2])] at hQ
  have hQ : x_Q2 O (x_kl K a [(27, 0), (14, 156), (14, 6), (14, 120), (19, 8), (17, 3), (17, 3), (14, 6), (14, 6), (14, 20), (3, 0), (5, 0), (14, 52), (3, 0), (5, 0), (14, 52)]) (x_fu F a [.ref (a + 1), .int 0, .ref (a + 2), .ref (a + 3), .int 0, .ref (a + 4), .int 0, .int 0, .int 0, .ref (a + 5), .int 0, .ref (a + 6), .int 0, .ref (a + 7), .ref (a + 8), .int 0, .ref (a + 9)]) (x_rk (x_hs h a 16 g_7) (a + 4) 1) H (a + 16) := hQ
  refine r_aast C hQ hS (by rw [x_kl_j 4 rfl]) (by rw [x_kl_j 13 rfl]) (by rw [x_kl_j 4 rfl]; decide) dX7_init_138 (fun H locs hQ hS => ?_)
  rw [x_rk_s (i := 1) (by decide) (by omega)] at hQ
  have hQ : x_Q2 O (x_kl K a [(27, 0), (14, 156), (14, 6), (14, 120), (19, 8), (17, 3), (17, 3), (14, 6), (14, 6), (14, 20), (3, 0), (5, 0), (14, 52), (3, 0), (5, 0), (14, 52)]) (x_fu F a [.ref (a + 1), .int 0, .ref (a + 2), .ref (a + 3), .int 0, .ref (a + 4), .int 0, .int 0, .int 0, .ref (a + 5), .int 0, .ref (a + 6), .int 0, .ref (a + 7), .ref (a + 8), .int 0, .ref (a + 9)]) (x_rk (x_hs h a 16 g_7) (a + 4) 2) H (a + 16) := hQ
  refine lv_iinc (k := 0) (v := 2) (lv' := [(1, _), (0, _)]) hx hb dX7_init_139 hl rfl (by decide) (Nat.le_of_ble_eq_true rfl) rfl (fun ls hl => ?_)
  have hl : lv_has ls 2 [(1, .int 2), (0, .ref a)] := hl
  refine lv_goto (tgt := 120) hx hb dX7_init_142 rfl ?_
  refine lv_iload_n hx hb dX7_init_120 rfl (lv_at hl 0 rfl) ?_
  refine lv_bipush (v := 8) hx hb dX7_init_121 rfl ?_
  refine lv_icmp_ge (tgt := 145) hx hb dX7_init_123 rfl (fun hc => absurd hc (by decide)) (fun _ => ?_)
  refine lv_aload_n hx hb dX7_init_126 rfl (lv_at hl 1 rfl) ?_
  refine n_get C hQ (ci := 7) rfl inT_7 5 (by decide) tw_301 (v := .ref (a + 4)) rfl dX7_init_127 ?_
  refine lv_iload_n hx hb dX7_init_130 rfl (lv_at hl 0 rfl) ?_
  refine r_new C hQ hS (ci := 2) rfl inT_2 tyX2 tyX2_ok tw_195 tw_199 tw_109 (fs := [.int 0, .int 0, .int 0, .int 0, .null, .null]) (by decide) (Nat.le_of_ble_eq_true rfl) (Nat.le_of_ble_eq_true rfl) dX7_init_131 (fun H hQ hS => ?_)
  refine lv_dup hx hb dX7_init_134 rfl ?_
  refine r_init C hQ hS (S_X2_init (a := a + 16)) mk_2 (host := "MemoryHouse") (As := []) (Or.inr (tin_1 (List.mem_of_getElem? (i := 95) (by decide +kernel)))) (Nat.le_of_ble_eq_true rfl) (Nat.le_of_ble_eq_true rfl) rfl hl.1 (Nat.le_of_ble_eq_true rfl) dX7_init_135 ⟨Nat.le_of_ble_eq_true rfl, Nat.le_of_ble_eq_true rfl⟩ rfl (fun H locs hQ hS => ?_)
  rw [x_rk_hs (by omega)] at hQ
  rw [x_kl_app (m := 16) rfl, x_hs_app (g := g_7) (by intro j hj k; rcases (show j = 0 ∨ j = 1 ∨ j = 2 by omega) with rfl | rfl | rfl <;> simp [g_7, g_2])] at hQ
  have hQ : x_Q2 O (x_kl K a [(27, 0), (14, 156), (14, 6), (14, 120), (19, 8), (17, 3), (17, 3), (14, 6), (14, 6), (14, 20), (3, 0), (5, 0), (14, 52), (3, 0), (5, 0), (14, 52), (3, 0), (5, 0), (14, 52)]) (x_fu F a [.ref (a + 1), .int 0, .ref (a + 2), .ref (a + 3), .int 0, .ref (a + 4), .int 0, .int 0, .int 0, .ref (a + 5), .int 0, .ref (a + 6), .int 0, .ref (a + 7), .ref (a + 8), .int 0, .ref (a + 9)]) (x_rk (x_hs h a 19 g_7) (a + 4) 2) H (a + 19) := hQ
  refine r_aast C hQ hS (by rw [x_kl_j 4 rfl]) (by rw [x_kl_j 16 rfl]) (by rw [x_kl_j 4 rfl]; decide) dX7_init_138 (fun H locs hQ hS => ?_)
  rw [x_rk_s (i := 2) (by decide) (by omega)] at hQ
  have hQ : x_Q2 O (x_kl K a [(27, 0), (14, 156), (14, 6), (14, 120), (19, 8), (17, 3), (17, 3), (14, 6), (14, 6), (14, 20), (3, 0), (5, 0), (14, 52), (3, 0), (5, 0), (14, 52), (3, 0), (5, 0), (14, 52)]) (x_fu F a [.ref (a + 1), .int 0, .ref (a + 2), .ref (a + 3), .int 0, .ref (a + 4), .int 0, .int 0, .int 0, .ref (a + 5), .int 0, .ref (a + 6), .int 0, .ref (a + 7), .ref (a + 8), .int 0, .ref (a + 9)]) (x_rk (x_hs h a 19 g_7) (a + 4) 3) H (a + 19) := hQ
  refine lv_iinc (k := 0) (v := 3) (lv' := [(1, _), (0, _)]) hx hb dX7_init_139 hl rfl (by decide) (Nat.le_of_ble_eq_true rfl) rfl (fun ls hl => ?_)
  have hl : lv_has ls 2 [(1, .int 3), (0, .ref a)] := hl
  refine lv_goto (tgt := 120) hx hb dX7_init_142 rfl ?_
  refine lv_iload_n hx hb dX7_init_120 rfl (lv_at hl 0 rfl) ?_
  refine lv_bipush (v := 8) hx hb dX7_init_121 rfl ?_
  refine lv_icmp_ge (tgt := 145) hx hb dX7_init_123 rfl (fun hc => absurd hc (by decide)) (fun _ => ?_)
  refine lv_aload_n hx hb dX7_init_126 rfl (lv_at hl 1 rfl) ?_
  refine n_get C hQ (ci := 7) rfl inT_7 5 (by decide) tw_301 (v := .ref (a + 4)) rfl dX7_init_127 ?_
  refine lv_iload_n hx hb dX7_init_130 rfl (lv_at hl 0 rfl) ?_
  refine r_new C hQ hS (ci := 2) rfl inT_2 tyX2 tyX2_ok tw_195 tw_199 tw_109 (fs := [.int 0, .int 0, .int 0, .int 0, .null, .null]) (by decide) (Nat.le_of_ble_eq_true rfl) (Nat.le_of_ble_eq_true rfl) dX7_init_131 (fun H hQ hS => ?_)
  refine lv_dup hx hb dX7_init_134 rfl ?_
  refine r_init C hQ hS (S_X2_init (a := a + 19)) mk_2 (host := "MemoryHouse") (As := []) (Or.inr (tin_1 (List.mem_of_getElem? (i := 95) (by decide +kernel)))) (Nat.le_of_ble_eq_true rfl) (Nat.le_of_ble_eq_true rfl) rfl hl.1 (Nat.le_of_ble_eq_true rfl) dX7_init_135 ⟨Nat.le_of_ble_eq_true rfl, Nat.le_of_ble_eq_true rfl⟩ rfl (fun H locs hQ hS => ?_)
  rw [x_rk_hs (by omega)] at hQ
  rw [x_kl_app (m := 19) rfl, x_hs_app (g := g_7) (by intro j hj k; rcases (show j = 0 ∨ j = 1 ∨ j = 2 by omega) with rfl | rfl | rfl <;> simp [g_7, g_2])] at hQ
  have hQ : x_Q2 O (x_kl K a [(27, 0), (14, 156), (14, 6), (14, 120), (19, 8), (17, 3), (17, 3), (14, 6), (14, 6), (14, 20), (3, 0), (5, 0), (14, 52), (3, 0), (5, 0), (14, 52), (3, 0), (5, 0), (14, 52), (3, 0), (5, 0), (14, 52)]) (x_fu F a [.ref (a + 1), .int 0, .ref (a + 2), .ref (a + 3), .int 0, .ref (a + 4), .int 0, .int 0, .int 0, .ref (a + 5), .int 0, .ref (a + 6), .int 0, .ref (a + 7), .ref (a + 8), .int 0, .ref (a + 9)]) (x_rk (x_hs h a 22 g_7) (a + 4) 3) H (a + 22) := hQ
  refine r_aast C hQ hS (by rw [x_kl_j 4 rfl]) (by rw [x_kl_j 19 rfl]) (by rw [x_kl_j 4 rfl]; decide) dX7_init_138 (fun H locs hQ hS => ?_)
  rw [x_rk_s (i := 3) (by decide) (by omega)] at hQ
  have hQ : x_Q2 O (x_kl K a [(27, 0), (14, 156), (14, 6), (14, 120), (19, 8), (17, 3), (17, 3), (14, 6), (14, 6), (14, 20), (3, 0), (5, 0), (14, 52), (3, 0), (5, 0), (14, 52), (3, 0), (5, 0), (14, 52), (3, 0), (5, 0), (14, 52)]) (x_fu F a [.ref (a + 1), .int 0, .ref (a + 2), .ref (a + 3), .int 0, .ref (a + 4), .int 0, .int 0, .int 0, .ref (a + 5), .int 0, .ref (a + 6), .int 0, .ref (a + 7), .ref (a + 8), .int 0, .ref (a + 9)]) (x_rk (x_hs h a 22 g_7) (a + 4) 4) H (a + 22) := hQ
  refine lv_iinc (k := 0) (v := 4) (lv' := [(1, _), (0, _)]) hx hb dX7_init_139 hl rfl (by decide) (Nat.le_of_ble_eq_true rfl) rfl (fun ls hl => ?_)
  have hl : lv_has ls 2 [(1, .int 4), (0, .ref a)] := hl
  refine lv_goto (tgt := 120) hx hb dX7_init_142 rfl ?_
  refine lv_iload_n hx hb dX7_init_120 rfl (lv_at hl 0 rfl) ?_
  refine lv_bipush (v := 8) hx hb dX7_init_121 rfl ?_
  refine lv_icmp_ge (tgt := 145) hx hb dX7_init_123 rfl (fun hc => absurd hc (by decide)) (fun _ => ?_)
  refine lv_aload_n hx hb dX7_init_126 rfl (lv_at hl 1 rfl) ?_
  refine n_get C hQ (ci := 7) rfl inT_7 5 (by decide) tw_301 (v := .ref (a + 4)) rfl dX7_init_127 ?_
  refine lv_iload_n hx hb dX7_init_130 rfl (lv_at hl 0 rfl) ?_
  refine r_new C hQ hS (ci := 2) rfl inT_2 tyX2 tyX2_ok tw_195 tw_199 tw_109 (fs := [.int 0, .int 0, .int 0, .int 0, .null, .null]) (by decide) (Nat.le_of_ble_eq_true rfl) (Nat.le_of_ble_eq_true rfl) dX7_init_131 (fun H hQ hS => ?_)
  refine lv_dup hx hb dX7_init_134 rfl ?_
  refine r_init C hQ hS (S_X2_init (a := a + 22)) mk_2 (host := "MemoryHouse") (As := []) (Or.inr (tin_1 (List.mem_of_getElem? (i := 95) (by decide +kernel)))) (Nat.le_of_ble_eq_true rfl) (Nat.le_of_ble_eq_true rfl) rfl hl.1 (Nat.le_of_ble_eq_true rfl) dX7_init_135 ⟨Nat.le_of_ble_eq_true rfl, Nat.le_of_ble_eq_true rfl⟩ rfl (fun H locs hQ hS => ?_)
  rw [x_rk_hs (by omega)] at hQ
  rw [x_kl_app (m := 22) rfl, x_hs_app (g := g_7) (by intro j hj k; rcases (show j = 0 ∨ j = 1 ∨ j = 2 by omega) with rfl | rfl | rfl <;> simp [g_7, g_2])] at hQ
  have hQ : x_Q2 O (x_kl K a [(27, 0), (14, 156), (14, 6), (14, 120), (19, 8), (17, 3), (17, 3), (14, 6), (14, 6), (14, 20), (3, 0), (5, 0), (14, 52), (3, 0), (5, 0), (14, 52), (3, 0), (5, 0), (14, 52), (3, 0), (5, 0), (14, 52), (3, 0), (5, 0), (14, 52)]) (x_fu F a [.ref (a + 1), .int 0, .ref (a + 2), .ref (a + 3), .int 0, .ref (a + 4), .int 0, .int 0, .int 0, .ref (a + 5), .int 0, .ref (a + 6), .int 0, .ref (a + 7), .ref (a + 8), .int 0, .ref (a + 9)]) (x_rk (x_hs h a 25 g_7) (a + 4) 4) H (a + 25) := hQ
  refine r_aast C hQ hS (by rw [x_kl_j 4 rfl]) (by rw [x_kl_j 22 rfl]) (by rw [x_kl_j 4 rfl]; decide) dX7_init_138 (fun H locs hQ hS => ?_)
  rw [x_rk_s (i := 4) (by decide) (by omega)] at hQ
  have hQ : x_Q2 O (x_kl K a [(27, 0), (14, 156), (14, 6), (14, 120), (19, 8), (17, 3), (17, 3), (14, 6), (14, 6), (14, 20), (3, 0), (5, 0), (14, 52), (3, 0), (5, 0), (14, 52), (3, 0), (5, 0), (14, 52), (3, 0), (5, 0), (14, 52), (3, 0), (5, 0), (14, 52)]) (x_fu F a [.ref (a + 1), .int 0, .ref (a + 2), .ref (a + 3), .int 0, .ref (a + 4), .int 0, .int 0, .int 0, .ref (a + 5), .int 0, .ref (a + 6), .int 0, .ref (a + 7), .ref (a + 8), .int 0, .ref (a + 9)]) (x_rk (x_hs h a 25 g_7) (a + 4) 5) H (a + 25) := hQ
  refine lv_iinc (k := 0) (v := 5) (lv' := [(1, _), (0, _)]) hx hb dX7_init_139 hl rfl (by decide) (Nat.le_of_ble_eq_true rfl) rfl (fun ls hl => ?_)
  have hl : lv_has ls 2 [(1, .int 5), (0, .ref a)] := hl
  refine lv_goto (tgt := 120) hx hb dX7_init_142 rfl ?_
  refine lv_iload_n hx hb dX7_init_120 rfl (lv_at hl 0 rfl) ?_
  refine lv_bipush (v := 8) hx hb dX7_init_121 rfl ?_
  refine lv_icmp_ge (tgt := 145) hx hb dX7_init_123 rfl (fun hc => absurd hc (by decide)) (fun _ => ?_)
  refine lv_aload_n hx hb dX7_init_126 rfl (lv_at hl 1 rfl) ?_
  refine n_get C hQ (ci := 7) rfl inT_7 5 (by decide) tw_301 (v := .ref (a + 4)) rfl dX7_init_127 ?_
  refine lv_iload_n hx hb dX7_init_130 rfl (lv_at hl 0 rfl) ?_
  refine r_new C hQ hS (ci := 2) rfl inT_2 tyX2 tyX2_ok tw_195 tw_199 tw_109 (fs := [.int 0, .int 0, .int 0, .int 0, .null, .null]) (by decide) (Nat.le_of_ble_eq_true rfl) (Nat.le_of_ble_eq_true rfl) dX7_init_131 (fun H hQ hS => ?_)
  refine lv_dup hx hb dX7_init_134 rfl ?_
  refine r_init C hQ hS (S_X2_init (a := a + 25)) mk_2 (host := "MemoryHouse") (As := []) (Or.inr (tin_1 (List.mem_of_getElem? (i := 95) (by decide +kernel)))) (Nat.le_of_ble_eq_true rfl) (Nat.le_of_ble_eq_true rfl) rfl hl.1 (Nat.le_of_ble_eq_true rfl) dX7_init_135 ⟨Nat.le_of_ble_eq_true rfl, Nat.le_of_ble_eq_true rfl⟩ rfl (fun H locs hQ hS => ?_)
  rw [x_rk_hs (by omega)] at hQ
  rw [x_kl_app (m := 25) rfl, x_hs_app (g := g_7) (by intro j hj k; rcases (show j = 0 ∨ j = 1 ∨ j = 2 by omega) with rfl | rfl | rfl <;> simp [g_7, g_2])] at hQ
  have hQ : x_Q2 O (x_kl K a [(27, 0), (14, 156), (14, 6), (14, 120), (19, 8), (17, 3), (17, 3), (14, 6), (14, 6), (14, 20), (3, 0), (5, 0), (14, 52), (3, 0), (5, 0), (14, 52), (3, 0), (5, 0), (14, 52), (3, 0), (5, 0), (14, 52), (3, 0), (5, 0), (14, 52), (3, 0), (5, 0), (14, 52)]) (x_fu F a [.ref (a + 1), .int 0, .ref (a + 2), .ref (a + 3), .int 0, .ref (a + 4), .int 0, .int 0, .int 0, .ref (a + 5), .int 0, .ref (a + 6), .int 0, .ref (a + 7), .ref (a + 8), .int 0, .ref (a + 9)]) (x_rk (x_hs h a 28 g_7) (a + 4) 5) H (a + 28) := hQ
  refine r_aast C hQ hS (by rw [x_kl_j 4 rfl]) (by rw [x_kl_j 25 rfl]) (by rw [x_kl_j 4 rfl]; decide) dX7_init_138 (fun H locs hQ hS => ?_)
  rw [x_rk_s (i := 5) (by decide) (by omega)] at hQ
  have hQ : x_Q2 O (x_kl K a [(27, 0), (14, 156), (14, 6), (14, 120), (19, 8), (17, 3), (17, 3), (14, 6), (14, 6), (14, 20), (3, 0), (5, 0), (14, 52), (3, 0), (5, 0), (14, 52), (3, 0), (5, 0), (14, 52), (3, 0), (5, 0), (14, 52), (3, 0), (5, 0), (14, 52), (3, 0), (5, 0), (14, 52)]) (x_fu F a [.ref (a + 1), .int 0, .ref (a + 2), .ref (a + 3), .int 0, .ref (a + 4), .int 0, .int 0, .int 0, .ref (a + 5), .int 0, .ref (a + 6), .int 0, .ref (a + 7), .ref (a + 8), .int 0, .ref (a + 9)]) (x_rk (x_hs h a 28 g_7) (a + 4) 6) H (a + 28) := hQ
  refine lv_iinc (k := 0) (v := 6) (lv' := [(1, _), (0, _)]) hx hb dX7_init_139 hl rfl (by decide) (Nat.le_of_ble_eq_true rfl) rfl (fun ls hl => ?_)
  have hl : lv_has ls 2 [(1, .int 6), (0, .ref a)] := hl
  refine lv_goto (tgt := 120) hx hb dX7_init_142 rfl ?_
  refine lv_iload_n hx hb dX7_init_120 rfl (lv_at hl 0 rfl) ?_
  refine lv_bipush (v := 8) hx hb dX7_init_121 rfl ?_
  refine lv_icmp_ge (tgt := 145) hx hb dX7_init_123 rfl (fun hc => absurd hc (by decide)) (fun _ => ?_)
  refine lv_aload_n hx hb dX7_init_126 rfl (lv_at hl 1 rfl) ?_
  refine n_get C hQ (ci := 7) rfl inT_7 5 (by decide) tw_301 (v := .ref (a + 4)) rfl dX7_init_127 ?_
  refine lv_iload_n hx hb dX7_init_130 rfl (lv_at hl 0 rfl) ?_
  refine r_new C hQ hS (ci := 2) rfl inT_2 tyX2 tyX2_ok tw_195 tw_199 tw_109 (fs := [.int 0, .int 0, .int 0, .int 0, .null, .null]) (by decide) (Nat.le_of_ble_eq_true rfl) (Nat.le_of_ble_eq_true rfl) dX7_init_131 (fun H hQ hS => ?_)
  refine lv_dup hx hb dX7_init_134 rfl ?_
  refine r_init C hQ hS (S_X2_init (a := a + 28)) mk_2 (host := "MemoryHouse") (As := []) (Or.inr (tin_1 (List.mem_of_getElem? (i := 95) (by decide +kernel)))) (Nat.le_of_ble_eq_true rfl) (Nat.le_of_ble_eq_true rfl) rfl hl.1 (Nat.le_of_ble_eq_true rfl) dX7_init_135 ⟨Nat.le_of_ble_eq_true rfl, Nat.le_of_ble_eq_true rfl⟩ rfl (fun H locs hQ hS => ?_)
  rw [x_rk_hs (by omega)] at hQ
  rw [x_kl_app (m := 28) rfl, x_hs_app (g := g_7) (by intro j hj k; rcases (show j = 0 ∨ j = 1 ∨ j = 2 by omega) with rfl | rfl | rfl <;> simp [g_7, g_2])] at hQ
  have hQ : x_Q2 O (x_kl K a [(27, 0), (14, 156), (14, 6), (14, 120), (19, 8), (17, 3), (17, 3), (14, 6), (14, 6), (14, 20), (3, 0), (5, 0), (14, 52), (3, 0), (5, 0), (14, 52), (3, 0), (5, 0), (14, 52), (3, 0), (5, 0), (14, 52), (3, 0), (5, 0), (14, 52), (3, 0), (5, 0), (14, 52), (3, 0), (5, 0), (14, 52)]) (x_fu F a [.ref (a + 1), .int 0, .ref (a + 2), .ref (a + 3), .int 0, .ref (a + 4), .int 0, .int 0, .int 0, .ref (a + 5), .int 0, .ref (a + 6), .int 0, .ref (a + 7), .ref (a + 8), .int 0, .ref (a + 9)]) (x_rk (x_hs h a 31 g_7) (a + 4) 6) H (a + 31) := hQ
  refine r_aast C hQ hS (by rw [x_kl_j 4 rfl]) (by rw [x_kl_j 28 rfl]) (by rw [x_kl_j 4 rfl]; decide) dX7_init_138 (fun H locs hQ hS => ?_)
  rw [x_rk_s (i := 6) (by decide) (by omega)] at hQ
  have hQ : x_Q2 O (x_kl K a [(27, 0), (14, 156), (14, 6), (14, 120), (19, 8), (17, 3), (17, 3), (14, 6), (14, 6), (14, 20), (3, 0), (5, 0), (14, 52), (3, 0), (5, 0), (14, 52), (3, 0), (5, 0), (14, 52), (3, 0), (5, 0), (14, 52), (3, 0), (5, 0), (14, 52), (3, 0), (5, 0), (14, 52), (3, 0), (5, 0), (14, 52)]) (x_fu F a [.ref (a + 1), .int 0, .ref (a + 2), .ref (a + 3), .int 0, .ref (a + 4), .int 0, .int 0, .int 0, .ref (a + 5), .int 0, .ref (a + 6), .int 0, .ref (a + 7), .ref (a + 8), .int 0, .ref (a + 9)]) (x_rk (x_hs h a 31 g_7) (a + 4) 7) H (a + 31) := hQ
  refine lv_iinc (k := 0) (v := 7) (lv' := [(1, _), (0, _)]) hx hb dX7_init_139 hl rfl (by decide) (Nat.le_of_ble_eq_true rfl) rfl (fun ls hl => ?_)
  have hl : lv_has ls 2 [(1, .int 7), (0, .ref a)] := hl
  refine lv_goto (tgt := 120) hx hb dX7_init_142 rfl ?_
  refine lv_iload_n hx hb dX7_init_120 rfl (lv_at hl 0 rfl) ?_
  refine lv_bipush (v := 8) hx hb dX7_init_121 rfl ?_
  refine lv_icmp_ge (tgt := 145) hx hb dX7_init_123 rfl (fun hc => absurd hc (by decide)) (fun _ => ?_)
  refine lv_aload_n hx hb dX7_init_126 rfl (lv_at hl 1 rfl) ?_
  refine n_get C hQ (ci := 7) rfl inT_7 5 (by decide) tw_301 (v := .ref (a + 4)) rfl dX7_init_127 ?_
  refine lv_iload_n hx hb dX7_init_130 rfl (lv_at hl 0 rfl) ?_
  refine r_new C hQ hS (ci := 2) rfl inT_2 tyX2 tyX2_ok tw_195 tw_199 tw_109 (fs := [.int 0, .int 0, .int 0, .int 0, .null, .null]) (by decide) (Nat.le_of_ble_eq_true rfl) (Nat.le_of_ble_eq_true rfl) dX7_init_131 (fun H hQ hS => ?_)
  refine lv_dup hx hb dX7_init_134 rfl ?_
  refine r_init C hQ hS (S_X2_init (a := a + 31)) mk_2 (host := "MemoryHouse") (As := []) (Or.inr (tin_1 (List.mem_of_getElem? (i := 95) (by decide +kernel)))) (Nat.le_of_ble_eq_true rfl) (Nat.le_of_ble_eq_true rfl) rfl hl.1 (Nat.le_of_ble_eq_true rfl) dX7_init_135 ⟨Nat.le_of_ble_eq_true rfl, Nat.le_of_ble_eq_true rfl⟩ rfl (fun H locs hQ hS => ?_)
  rw [x_rk_hs (by omega)] at hQ
  rw [x_kl_app (m := 31) rfl, x_hs_app (g := g_7) (by intro j hj k; rcases (show j = 0 ∨ j = 1 ∨ j = 2 by omega) with rfl | rfl | rfl <;> simp [g_7, g_2])] at hQ
  have hQ : x_Q2 O (x_kl K a [(27, 0), (14, 156), (14, 6), (14, 120), (19, 8), (17, 3), (17, 3), (14, 6), (14, 6), (14, 20), (3, 0), (5, 0), (14, 52), (3, 0), (5, 0), (14, 52), (3, 0), (5, 0), (14, 52), (3, 0), (5, 0), (14, 52), (3, 0), (5, 0), (14, 52), (3, 0), (5, 0), (14, 52), (3, 0), (5, 0), (14, 52), (3, 0), (5, 0), (14, 52)]) (x_fu F a [.ref (a + 1), .int 0, .ref (a + 2), .ref (a + 3), .int 0, .ref (a + 4), .int 0, .int 0, .int 0, .ref (a + 5), .int 0, .ref (a + 6), .int 0, .ref (a + 7), .ref (a + 8), .int 0, .ref (a + 9)]) (x_rk (x_hs h a 34 g_7) (a + 4) 7) H (a + 34) := hQ
  refine r_aast C hQ hS (by rw [x_kl_j 4 rfl]) (by rw [x_kl_j 31 rfl]) (by rw [x_kl_j 4 rfl]; decide) dX7_init_138 (fun H locs hQ hS => ?_)
  rw [x_rk_s (i := 7) (by decide) (by omega)] at hQ
  have hQ : x_Q2 O (x_kl K a [(27, 0), (14, 156), (14, 6), (14, 120), (19, 8), (17, 3), (17, 3), (14, 6), (14, 6), (14, 20), (3, 0), (5, 0), (14, 52), (3, 0), (5, 0), (14, 52), (3, 0), (5, 0), (14, 52), (3, 0), (5, 0), (14, 52), (3, 0), (5, 0), (14, 52), (3, 0), (5, 0), (14, 52), (3, 0), (5, 0), (14, 52), (3, 0), (5, 0), (14, 52)]) (x_fu F a [.ref (a + 1), .int 0, .ref (a + 2), .ref (a + 3), .int 0, .ref (a + 4), .int 0, .int 0, .int 0, .ref (a + 5), .int 0, .ref (a + 6), .int 0, .ref (a + 7), .ref (a + 8), .int 0, .ref (a + 9)]) (x_rk (x_hs h a 34 g_7) (a + 4) 8) H (a + 34) := hQ
  refine lv_iinc (k := 0) (v := 8) (lv' := [(1, _), (0, _)]) hx hb dX7_init_139 hl rfl (by decide) (Nat.le_of_ble_eq_true rfl) rfl (fun ls hl => ?_)
  have hl : lv_has ls 2 [(1, .int 8), (0, .ref a)] := hl
  refine lv_goto (tgt := 120) hx hb dX7_init_142 rfl ?_
  refine lv_iload_n hx hb dX7_init_120 rfl (lv_at hl 0 rfl) ?_
  refine lv_bipush (v := 8) hx hb dX7_init_121 rfl ?_
  refine lv_icmp_ge (tgt := 145) hx hb dX7_init_123 rfl (fun _ => ?_) (fun hc => absurd (by decide) hc)
  have hQ := hQ.pk (x_kl_j 4 rfl)
  rw [x_kl_set 4 (Nat.le_of_ble_eq_true rfl)] at hQ
  have hQ : x_Q2 O (x_kl K a [(27, 0), (14, 156), (14, 6), (14, 120), (16, 8), (17, 3), (17, 3), (14, 6), (14, 6), (14, 20), (3, 0), (5, 0), (14, 52), (3, 0), (5, 0), (14, 52), (3, 0), (5, 0), (14, 52), (3, 0), (5, 0), (14, 52), (3, 0), (5, 0), (14, 52), (3, 0), (5, 0), (14, 52), (3, 0), (5, 0), (14, 52), (3, 0), (5, 0), (14, 52)]) (x_fu F a [.ref (a + 1), .int 0, .ref (a + 2), .ref (a + 3), .int 0, .ref (a + 4), .int 0, .int 0, .int 0, .ref (a + 5), .int 0, .ref (a + 6), .int 0, .ref (a + 7), .ref (a + 8), .int 0, .ref (a + 9)]) (x_hs h a 34 g_7) H (a + 34) := hQ
  exact r_vret C (hQ.fin 7 (by decide) (by simp [x_fs, x_hs, va_rf, g_7, show ¬ (a + 34 ≤ a) by omega])) hS (Nat.le_of_ble_eq_true rfl) (Nat.le_of_ble_eq_true rfl) dX7_init_145
def g_11 : XG := (fun j k => if j = 1 ∧ k = 8 then (-1) else if j = 20 ∧ k = 2 then 1 else if j = 23 ∧ k = 2 then 1 else if j = 26 ∧ k = 2 then 1 else if j = 29 ∧ k = 2 then 1 else if j = 32 ∧ k = 2 then 1 else if j = 35 ∧ k = 2 then 1 else if j = 38 ∧ k = 2 then 1 else if j = 41 ∧ k = 2 then 1 else if j = 47 ∧ k = 2 then 1 else if j = 54 ∧ k = 5 then (-1) else 0, fun j k => if j = 51 ∧ k = 5 then 1 else 0)
theorem oi_11 : Cond.methodLink RX11 1 Lib.objectInit ∈ TB := TB_of (tin_1 (List.mem_of_getElem? (i := 35) (by decide +kernel))) rfl
theorem kc_11 : Cond.code yX11_init cX11_init 1 none ∈ TB := TB_of (tin_1 (List.mem_of_getElem? (i := 34) (by decide +kernel))) rfl
theorem ki_11 : Cond.instanceMethod yX11_init ∈ TB := TB_of (tin_1 (List.mem_of_getElem? (i := 33) (by decide +kernel))) rfl
theorem mk_11 : x_MK yX11_init cX11_init 1 0 := ⟨kc_11, ki_11, tw_106, by decide, by decide, by decide +kernel, rfl⟩
set_option maxRecDepth 20000 in
theorem S_X11_init {l : Launch} {O : XO} {K : XK} {F : Nat → List Value} {h : XH} : x_MI l O yX11_init cX11_init 1 none 4 101 63 4359 (x_ku K (oX O) (31, 0)) (x_fu F (oX O) [.null, .null, .null, .null, .null, .null, .null, .null, .null]) h ((oX O) + 1) [.ref (oX O)] none (x_kl K (oX O) [(12, 0), (9, 0), (14, 400), (14, 401), (14, 401), (14, 10), (14, 10), (14, 10), (14, 400), (8, 0), (14, 156), (14, 6), (14, 120), (16, 8), (17, 3), (17, 3), (14, 6), (14, 6), (14, 20), (3, 0), (5, 0), (14, 52), (3, 0), (5, 0), (14, 52), (3, 0), (5, 0), (14, 52), (3, 0), (5, 0), (14, 52), (3, 0), (5, 0), (14, 52), (3, 0), (5, 0), (14, 52), (3, 0), (5, 0), (14, 52), (3, 0), (5, 0), (14, 52), (10, 0), (14, 10), (14, 20), (6, 0), (5, 0), (14, 49), (7, 0), (14, 6), (2, 0), (14, 5), (14, 6), (4, 0), (14, 5), (14, 30), (14, 5), (14, 5), (1, 0), (14, 52), (14, 52), (14, 1560), (14, 3)]) F (x_hs h (oX O) 64 g_11) ((oX O) + 64) := by
  refine x_enterI (by decide) (Nat.le_of_ble_eq_true rfl) (fun p e s m args below meth c C hn hQ ls hl => ?_)
  have hS : va_S (oA O) s.heap s.heap [] := va_S.rf
  have hx := C.1
  have hb := C.2.1
  have hz0 := hQ.1
  have hl : lv_has ls 1 [(0, .ref (oX O))] := hl
  have hQ := hQ.at (a := (oX O)) (ci := 11) (by rw [x_ku_at]) g_11
  rw [x_kl_one] at hQ
  refine lv_aload_n hx hb dX11_init_0 rfl (lv_at hl 0 rfl) ?_
  refine W.objInit hx hb C.2.2.2.1 (C.2.2.2.2.1 _ oi_11) (C.2.2.2.2.1 _ oi_inst) (C.2.2.2.2.1 _ oi_code) rfl (by rw [C.2.2.1]; exact hl.1) rfl dX11_init_1 (Nat.le_of_ble_eq_true rfl) (Nat.le_of_ble_eq_true rfl) ?_
  refine lv_aload_n hx hb dX11_init_4 rfl (lv_at hl 0 rfl) ?_
  refine r_new C hQ hS (ci := 8) rfl inT_8 tyX8 tyX8_ok tw_143 tw_144 tw_107 (fs := [.null, .int 0, .null, .null, .null, .null, .null, .null, .int 0, .int 0, .int 0, .int 0]) (by decide) (Nat.le_of_ble_eq_true rfl) (Nat.le_of_ble_eq_true rfl) dX11_init_5 (fun H hQ hS => ?_)
  refine lv_dup hx hb dX11_init_8 rfl ?_
  refine r_init C hQ hS (S_X8_init (a := (oX O) + 1)) mk_8 (host := "MemoryHouse") (As := []) (Or.inr (tin_1 (List.mem_of_getElem? (i := 40) (by decide +kernel)))) (Nat.le_of_ble_eq_true rfl) (Nat.le_of_ble_eq_true rfl) rfl hl.1 (Nat.le_of_ble_eq_true rfl) dX11_init_9 ⟨Nat.le_of_ble_eq_true rfl, Nat.le_of_ble_eq_true rfl⟩ rfl (fun H locs hQ hS => ?_)
  rw [x_kl_app (m := 1) rfl, x_hs_app (g := g_11) (by intro j hj k; rcases (show j = 0 ∨ j = 1 ∨ j = 2 ∨ j = 3 ∨ j = 4 ∨ j = 5 ∨ j = 6 ∨ j = 7 by omega) with rfl | rfl | rfl | rfl | rfl | rfl | rfl | rfl <;> simp [g_11, g_8])] at hQ
  have hQ : x_Q2 O (x_kl K (oX O) [(31, 0), (9, 0), (14, 400), (14, 401), (14, 401), (14, 10), (14, 10), (14, 10), (14, 400)]) (x_fu F (oX O) [.null, .null, .null, .null, .null, .null, .null, .null, .null]) (x_hs h (oX O) 9 g_11) H ((oX O) + 9) := hQ
  refine n_put C hQ hS (ci := 11) rfl inT_11 tyX11 tyX11_ok nmX11 0 (by decide) tw_495 (Or.inr ⟨rfl, hn, rfl⟩) rfl rfl (Nat.le_of_ble_eq_true rfl) dX11_init_12 (fun H locs hQ hS => ?_)
  have hQ : x_Q2 O (x_kl K (oX O) [(31, 0), (9, 0), (14, 400), (14, 401), (14, 401), (14, 10), (14, 10), (14, 10), (14, 400)]) (x_fu F (oX O) [.ref ((oX O) + 1), .null, .null, .null, .null, .null, .null, .null, .null]) (x_hs h (oX O) 9 g_11) H ((oX O) + 9) := hQ
  refine lv_aload_n hx hb dX11_init_15 rfl (lv_at hl 0 rfl) ?_
  refine r_new C hQ hS (ci := 7) rfl inT_7 tyX7 tyX7_ok tw_189 tw_190 tw_108 (fs := [.null, .int 0, .null, .null, .int 0, .null, .int 0, .int 0, .int 0, .null, .int 0, .null, .int 0, .null, .null, .int 0, .null]) (by decide) (Nat.le_of_ble_eq_true rfl) (Nat.le_of_ble_eq_true rfl) dX11_init_16 (fun H hQ hS => ?_)
  refine lv_dup hx hb dX11_init_19 rfl ?_
  refine r_init C hQ hS (S_X7_init (a := (oX O) + 9)) mk_7 (host := "MemoryHouse") (As := []) (Or.inl tw_191) (Nat.le_of_ble_eq_true rfl) (Nat.le_of_ble_eq_true rfl) rfl hl.1 (Nat.le_of_ble_eq_true rfl) dX11_init_20 ⟨Nat.le_of_ble_eq_true rfl, Nat.le_of_ble_eq_true rfl⟩ rfl (fun H locs hQ hS => ?_)
  rw [x_kl_app (m := 9) rfl, x_hs_app (g := g_11) (by intro j hj k; rcases (show j = 0 ∨ j = 1 ∨ j = 2 ∨ j = 3 ∨ j = 4 ∨ j = 5 ∨ j = 6 ∨ j = 7 ∨ j = 8 ∨ j = 9 ∨ j = 10 ∨ j = 11 ∨ j = 12 ∨ j = 13 ∨ j = 14 ∨ j = 15 ∨ j = 16 ∨ j = 17 ∨ j = 18 ∨ j = 19 ∨ j = 20 ∨ j = 21 ∨ j = 22 ∨ j = 23 ∨ j = 24 ∨ j = 25 ∨ j = 26 ∨ j = 27 ∨ j = 28 ∨ j = 29 ∨ j = 30 ∨ j = 31 ∨ j = 32 ∨ j = 33 by omega) with rfl | rfl | rfl | rfl | rfl | rfl | rfl | rfl | rfl | rfl | rfl | rfl | rfl | rfl | rfl | rfl | rfl | rfl | rfl | rfl | rfl | rfl | rfl | rfl | rfl | rfl | rfl | rfl | rfl | rfl | rfl | rfl | rfl | rfl <;> simp [g_11, g_7])] at hQ
  have hQ : x_Q2 O (x_kl K (oX O) [(31, 0), (9, 0), (14, 400), (14, 401), (14, 401), (14, 10), (14, 10), (14, 10), (14, 400), (8, 0), (14, 156), (14, 6), (14, 120), (16, 8), (17, 3), (17, 3), (14, 6), (14, 6), (14, 20), (3, 0), (5, 0), (14, 52), (3, 0), (5, 0), (14, 52), (3, 0), (5, 0), (14, 52), (3, 0), (5, 0), (14, 52), (3, 0), (5, 0), (14, 52), (3, 0), (5, 0), (14, 52), (3, 0), (5, 0), (14, 52), (3, 0), (5, 0), (14, 52)]) (x_fu F (oX O) [.ref ((oX O) + 1), .null, .null, .null, .null, .null, .null, .null, .null]) (x_hs h (oX O) 43 g_11) H ((oX O) + 43) := hQ
  refine n_put C hQ hS (ci := 11) rfl inT_11 tyX11 tyX11_ok nmX11 1 (by decide) tw_496 (Or.inr ⟨rfl, hn, rfl⟩) rfl rfl (Nat.le_of_ble_eq_true rfl) dX11_init_23 (fun H locs hQ hS => ?_)
  have hQ : x_Q2 O (x_kl K (oX O) [(31, 0), (9, 0), (14, 400), (14, 401), (14, 401), (14, 10), (14, 10), (14, 10), (14, 400), (8, 0), (14, 156), (14, 6), (14, 120), (16, 8), (17, 3), (17, 3), (14, 6), (14, 6), (14, 20), (3, 0), (5, 0), (14, 52), (3, 0), (5, 0), (14, 52), (3, 0), (5, 0), (14, 52), (3, 0), (5, 0), (14, 52), (3, 0), (5, 0), (14, 52), (3, 0), (5, 0), (14, 52), (3, 0), (5, 0), (14, 52), (3, 0), (5, 0), (14, 52)]) (x_fu F (oX O) [.ref ((oX O) + 1), .ref ((oX O) + 9), .null, .null, .null, .null, .null, .null, .null]) (x_hs h (oX O) 43 g_11) H ((oX O) + 43) := hQ
  refine lv_aload_n hx hb dX11_init_26 rfl (lv_at hl 0 rfl) ?_
  refine r_new C hQ hS (ci := 9) rfl inT_9 tyX9 tyX9_ok tw_368 tw_369 tw_111 (fs := [.null, .null]) (by decide) (Nat.le_of_ble_eq_true rfl) (Nat.le_of_ble_eq_true rfl) dX11_init_27 (fun H hQ hS => ?_)
  refine lv_dup hx hb dX11_init_30 rfl ?_
  refine r_init C hQ hS (S_X9_init (a := (oX O) + 43)) mk_9 (host := "MemoryHouse") (As := []) (Or.inr (tin_2 (List.mem_of_getElem? (i := 25) (by decide +kernel)))) (Nat.le_of_ble_eq_true rfl) (Nat.le_of_ble_eq_true rfl) rfl hl.1 (Nat.le_of_ble_eq_true rfl) dX11_init_31 ⟨Nat.le_of_ble_eq_true rfl, Nat.le_of_ble_eq_true rfl⟩ rfl (fun H locs hQ hS => ?_)
  rw [x_kl_app (m := 43) rfl, x_hs_app (g := g_11) (by intro j hj k; rcases (show j = 0 ∨ j = 1 ∨ j = 2 by omega) with rfl | rfl | rfl <;> simp [g_11, g_9])] at hQ
  have hQ : x_Q2 O (x_kl K (oX O) [(31, 0), (9, 0), (14, 400), (14, 401), (14, 401), (14, 10), (14, 10), (14, 10), (14, 400), (8, 0), (14, 156), (14, 6), (14, 120), (16, 8), (17, 3), (17, 3), (14, 6), (14, 6), (14, 20), (3, 0), (5, 0), (14, 52), (3, 0), (5, 0), (14, 52), (3, 0), (5, 0), (14, 52), (3, 0), (5, 0), (14, 52), (3, 0), (5, 0), (14, 52), (3, 0), (5, 0), (14, 52), (3, 0), (5, 0), (14, 52), (3, 0), (5, 0), (14, 52), (10, 0), (14, 10), (14, 20)]) (x_fu F (oX O) [.ref ((oX O) + 1), .ref ((oX O) + 9), .null, .null, .null, .null, .null, .null, .null]) (x_hs h (oX O) 46 g_11) H ((oX O) + 46) := hQ
  refine n_put C hQ hS (ci := 11) rfl inT_11 tyX11 tyX11_ok nmX11 2 (by decide) tw_497 (Or.inr ⟨rfl, hn, rfl⟩) rfl rfl (Nat.le_of_ble_eq_true rfl) dX11_init_34 (fun H locs hQ hS => ?_)
  have hQ : x_Q2 O (x_kl K (oX O) [(31, 0), (9, 0), (14, 400), (14, 401), (14, 401), (14, 10), (14, 10), (14, 10), (14, 400), (8, 0), (14, 156), (14, 6), (14, 120), (16, 8), (17, 3), (17, 3), (14, 6), (14, 6), (14, 20), (3, 0), (5, 0), (14, 52), (3, 0), (5, 0), (14, 52), (3, 0), (5, 0), (14, 52), (3, 0), (5, 0), (14, 52), (3, 0), (5, 0), (14, 52), (3, 0), (5, 0), (14, 52), (3, 0), (5, 0), (14, 52), (3, 0), (5, 0), (14, 52), (10, 0), (14, 10), (14, 20)]) (x_fu F (oX O) [.ref ((oX O) + 1), .ref ((oX O) + 9), .ref ((oX O) + 43), .null, .null, .null, .null, .null, .null]) (x_hs h (oX O) 46 g_11) H ((oX O) + 46) := hQ
  refine lv_aload_n hx hb dX11_init_37 rfl (lv_at hl 0 rfl) ?_
  refine r_new C hQ hS (ci := 5) rfl inT_5 tyX5 tyX5_ok tw_382 tw_383 tw_112 (fs := [.null, .null, .null, .null]) (by decide) (Nat.le_of_ble_eq_true rfl) (Nat.le_of_ble_eq_true rfl) dX11_init_38 (fun H hQ hS => ?_)
  refine lv_dup hx hb dX11_init_41 rfl ?_
  refine lv_aload_n hx hb dX11_init_42 rfl (lv_at hl 0 rfl) ?_
  refine r_get C hQ (a := (oX O)) (ci := 11) (by rw [x_ku_ne (by omega), x_kl_at] <;> rfl) rfl inT_11 1 (by decide) tw_496 (v := .ref ((oX O) + 9)) (by rw [x_fu_ne (by omega), x_fu_at]; rfl) dX11_init_43 ?_
  refine lv_aload_n hx hb dX11_init_46 rfl (lv_at hl 0 rfl) ?_
  refine r_get C hQ (a := (oX O)) (ci := 11) (by rw [x_ku_ne (by omega), x_kl_at] <;> rfl) rfl inT_11 2 (by decide) tw_497 (v := .ref ((oX O) + 43)) (by rw [x_fu_ne (by omega), x_fu_at]; rfl) dX11_init_47 ?_
  refine r_init C hQ hS (S_X5_init (a := (oX O) + 46)) mk_5 (host := "MemoryHouse") (As := [.ref (oX O + 9), .ref (oX O + 43)]) (Or.inl tw_384) (Nat.le_of_ble_eq_true rfl) (Nat.le_of_ble_eq_true rfl) rfl hl.1 (Nat.le_of_ble_eq_true rfl) dX11_init_50 ⟨Nat.le_of_ble_eq_true rfl, Nat.le_of_ble_eq_true rfl⟩ rfl (fun H locs hQ hS => ?_)
  rw [x_kl_app (m := 46) rfl, x_hs_app (g := g_11) (by intro j hj k; rcases (show j = 0 ∨ j = 1 ∨ j = 2 by omega) with rfl | rfl | rfl <;> simp [g_11, g_5])] at hQ
  have hQ : x_Q2 O (x_kl K (oX O) [(31, 0), (9, 0), (14, 400), (14, 401), (14, 401), (14, 10), (14, 10), (14, 10), (14, 400), (8, 0), (14, 156), (14, 6), (14, 120), (16, 8), (17, 3), (17, 3), (14, 6), (14, 6), (14, 20), (3, 0), (5, 0), (14, 52), (3, 0), (5, 0), (14, 52), (3, 0), (5, 0), (14, 52), (3, 0), (5, 0), (14, 52), (3, 0), (5, 0), (14, 52), (3, 0), (5, 0), (14, 52), (3, 0), (5, 0), (14, 52), (3, 0), (5, 0), (14, 52), (10, 0), (14, 10), (14, 20), (6, 0), (5, 0), (14, 49)]) (x_fu F (oX O) [.ref ((oX O) + 1), .ref ((oX O) + 9), .ref ((oX O) + 43), .null, .null, .null, .null, .null, .null]) (x_hs h (oX O) 49 g_11) H ((oX O) + 49) := hQ
  refine n_put C hQ hS (ci := 11) rfl inT_11 tyX11 tyX11_ok nmX11 3 (by decide) tw_498 (Or.inr ⟨rfl, hn, rfl⟩) rfl rfl (Nat.le_of_ble_eq_true rfl) dX11_init_53 (fun H locs hQ hS => ?_)
  have hQ : x_Q2 O (x_kl K (oX O) [(31, 0), (9, 0), (14, 400), (14, 401), (14, 401), (14, 10), (14, 10), (14, 10), (14, 400), (8, 0), (14, 156), (14, 6), (14, 120), (16, 8), (17, 3), (17, 3), (14, 6), (14, 6), (14, 20), (3, 0), (5, 0), (14, 52), (3, 0), (5, 0), (14, 52), (3, 0), (5, 0), (14, 52), (3, 0), (5, 0), (14, 52), (3, 0), (5, 0), (14, 52), (3, 0), (5, 0), (14, 52), (3, 0), (5, 0), (14, 52), (3, 0), (5, 0), (14, 52), (10, 0), (14, 10), (14, 20), (6, 0), (5, 0), (14, 49)]) (x_fu F (oX O) [.ref ((oX O) + 1), .ref ((oX O) + 9), .ref ((oX O) + 43), .ref ((oX O) + 46), .null, .null, .null, .null, .null]) (x_hs h (oX O) 49 g_11) H ((oX O) + 49) := hQ
  refine lv_aload_n hx hb dX11_init_56 rfl (lv_at hl 0 rfl) ?_
  refine r_new C hQ hS (ci := 6) rfl inT_6 tyX6 tyX6_ok tw_403 tw_404 tw_113 (fs := [.null, .null]) (by decide) (Nat.le_of_ble_eq_true rfl) (Nat.le_of_ble_eq_true rfl) dX11_init_57 (fun H hQ hS => ?_)
  refine lv_dup hx hb dX11_init_60 rfl ?_
  refine lv_aload_n hx hb dX11_init_61 rfl (lv_at hl 0 rfl) ?_
  refine r_get C hQ (a := (oX O)) (ci := 11) (by rw [x_ku_ne (by omega), x_kl_at] <;> rfl) rfl inT_11 1 (by decide) tw_496 (v := .ref ((oX O) + 9)) (by rw [x_fu_ne (by omega), x_fu_at]; rfl) dX11_init_62 ?_
  refine r_init C hQ hS (S_X6_init (a := (oX O) + 49)) mk_6 (host := "MemoryHouse") (As := [.ref (oX O + 9)]) (Or.inl tw_405) (Nat.le_of_ble_eq_true rfl) (Nat.le_of_ble_eq_true rfl) rfl hl.1 (Nat.le_of_ble_eq_true rfl) dX11_init_65 ⟨Nat.le_of_ble_eq_true rfl, Nat.le_of_ble_eq_true rfl⟩ rfl (fun H locs hQ hS => ?_)
  rw [x_kl_app (m := 49) rfl, x_hs_app (g := g_11) (by intro j hj k; rcases (show j = 0 ∨ j = 1 by omega) with rfl | rfl <;> simp [g_11, g_6])] at hQ
  have hQ : x_Q2 O (x_kl K (oX O) [(31, 0), (9, 0), (14, 400), (14, 401), (14, 401), (14, 10), (14, 10), (14, 10), (14, 400), (8, 0), (14, 156), (14, 6), (14, 120), (16, 8), (17, 3), (17, 3), (14, 6), (14, 6), (14, 20), (3, 0), (5, 0), (14, 52), (3, 0), (5, 0), (14, 52), (3, 0), (5, 0), (14, 52), (3, 0), (5, 0), (14, 52), (3, 0), (5, 0), (14, 52), (3, 0), (5, 0), (14, 52), (3, 0), (5, 0), (14, 52), (3, 0), (5, 0), (14, 52), (10, 0), (14, 10), (14, 20), (6, 0), (5, 0), (14, 49), (7, 0), (14, 6)]) (x_fu F (oX O) [.ref ((oX O) + 1), .ref ((oX O) + 9), .ref ((oX O) + 43), .ref ((oX O) + 46), .null, .null, .null, .null, .null]) (x_hs h (oX O) 51 g_11) H ((oX O) + 51) := hQ
  refine n_put C hQ hS (ci := 11) rfl inT_11 tyX11 tyX11_ok nmX11 4 (by decide) tw_499 (Or.inr ⟨rfl, hn, rfl⟩) rfl rfl (Nat.le_of_ble_eq_true rfl) dX11_init_68 (fun H locs hQ hS => ?_)
  have hQ : x_Q2 O (x_kl K (oX O) [(31, 0), (9, 0), (14, 400), (14, 401), (14, 401), (14, 10), (14, 10), (14, 10), (14, 400), (8, 0), (14, 156), (14, 6), (14, 120), (16, 8), (17, 3), (17, 3), (14, 6), (14, 6), (14, 20), (3, 0), (5, 0), (14, 52), (3, 0), (5, 0), (14, 52), (3, 0), (5, 0), (14, 52), (3, 0), (5, 0), (14, 52), (3, 0), (5, 0), (14, 52), (3, 0), (5, 0), (14, 52), (3, 0), (5, 0), (14, 52), (3, 0), (5, 0), (14, 52), (10, 0), (14, 10), (14, 20), (6, 0), (5, 0), (14, 49), (7, 0), (14, 6)]) (x_fu F (oX O) [.ref ((oX O) + 1), .ref ((oX O) + 9), .ref ((oX O) + 43), .ref ((oX O) + 46), .ref ((oX O) + 49), .null, .null, .null, .null]) (x_hs h (oX O) 51 g_11) H ((oX O) + 51) := hQ
  refine lv_aload_n hx hb dX11_init_71 rfl (lv_at hl 0 rfl) ?_
  refine r_new C hQ hS (ci := 1) rfl inT_1 tyX1 tyX1_ok tw_416 tw_417 tw_114 (fs := [.null, .null, .null, .int 0, .long 0, .long 0]) (by decide) (Nat.le_of_ble_eq_true rfl) (Nat.le_of_ble_eq_true rfl) dX11_init_72 (fun H hQ hS => ?_)
  refine lv_dup hx hb dX11_init_75 rfl ?_
  refine lv_aload_n hx hb dX11_init_76 rfl (lv_at hl 0 rfl) ?_
  refine r_get C hQ (a := (oX O)) (ci := 11) (by rw [x_ku_ne (by omega), x_kl_at] <;> rfl) rfl inT_11 2 (by decide) tw_497 (v := .ref ((oX O) + 43)) (by rw [x_fu_ne (by omega), x_fu_at]; rfl) dX11_init_77 ?_
  refine r_init C hQ hS (S_X1_init (a := (oX O) + 51)) mk_1 (host := "MemoryHouse") (As := [.ref (oX O + 43)]) (Or.inl tw_418) (Nat.le_of_ble_eq_true rfl) (Nat.le_of_ble_eq_true rfl) rfl hl.1 (Nat.le_of_ble_eq_true rfl) dX11_init_80 ⟨Nat.le_of_ble_eq_true rfl, Nat.le_of_ble_eq_true rfl⟩ rfl (fun H locs hQ hS => ?_)
  rw [x_kl_app (m := 51) rfl, x_hs_app (g := g_11) (by intro j hj k; rcases (show j = 0 ∨ j = 1 ∨ j = 2 by omega) with rfl | rfl | rfl <;> simp [g_11, g_1])] at hQ
  have hQ : x_Q2 O (x_kl K (oX O) [(31, 0), (9, 0), (14, 400), (14, 401), (14, 401), (14, 10), (14, 10), (14, 10), (14, 400), (8, 0), (14, 156), (14, 6), (14, 120), (16, 8), (17, 3), (17, 3), (14, 6), (14, 6), (14, 20), (3, 0), (5, 0), (14, 52), (3, 0), (5, 0), (14, 52), (3, 0), (5, 0), (14, 52), (3, 0), (5, 0), (14, 52), (3, 0), (5, 0), (14, 52), (3, 0), (5, 0), (14, 52), (3, 0), (5, 0), (14, 52), (3, 0), (5, 0), (14, 52), (10, 0), (14, 10), (14, 20), (6, 0), (5, 0), (14, 49), (7, 0), (14, 6), (2, 0), (14, 5), (14, 6)]) (x_fu F (oX O) [.ref ((oX O) + 1), .ref ((oX O) + 9), .ref ((oX O) + 43), .ref ((oX O) + 46), .ref ((oX O) + 49), .null, .null, .null, .null]) (x_hs h (oX O) 54 g_11) H ((oX O) + 54) := hQ
  refine n_put C hQ hS (ci := 11) rfl inT_11 tyX11 tyX11_ok nmX11 5 (by decide) tw_500 (Or.inr ⟨rfl, hn, rfl⟩) rfl rfl (Nat.le_of_ble_eq_true rfl) dX11_init_83 (fun H locs hQ hS => ?_)
  have hQ : x_Q2 O (x_kl K (oX O) [(31, 0), (9, 0), (14, 400), (14, 401), (14, 401), (14, 10), (14, 10), (14, 10), (14, 400), (8, 0), (14, 156), (14, 6), (14, 120), (16, 8), (17, 3), (17, 3), (14, 6), (14, 6), (14, 20), (3, 0), (5, 0), (14, 52), (3, 0), (5, 0), (14, 52), (3, 0), (5, 0), (14, 52), (3, 0), (5, 0), (14, 52), (3, 0), (5, 0), (14, 52), (3, 0), (5, 0), (14, 52), (3, 0), (5, 0), (14, 52), (3, 0), (5, 0), (14, 52), (10, 0), (14, 10), (14, 20), (6, 0), (5, 0), (14, 49), (7, 0), (14, 6), (2, 0), (14, 5), (14, 6)]) (x_fu F (oX O) [.ref ((oX O) + 1), .ref ((oX O) + 9), .ref ((oX O) + 43), .ref ((oX O) + 46), .ref ((oX O) + 49), .ref ((oX O) + 51), .null, .null, .null]) (x_hs h (oX O) 54 g_11) H ((oX O) + 54) := hQ
  refine lv_aload_n hx hb dX11_init_86 rfl (lv_at hl 0 rfl) ?_
  refine r_new C hQ hS (ci := 3) rfl inT_3 tyX3 tyX3_ok tw_444 tw_445 tw_115 (fs := [.null, .null, .null, .null, .int 0, .int 0]) (by decide) (Nat.le_of_ble_eq_true rfl) (Nat.le_of_ble_eq_true rfl) dX11_init_87 (fun H hQ hS => ?_)
  refine lv_dup hx hb dX11_init_90 rfl ?_
  refine r_init C hQ hS (S_X3_init (a := (oX O) + 54)) mk_3 (host := "MemoryHouse") (As := []) (Or.inr (tin_2 (List.mem_of_getElem? (i := 101) (by decide +kernel)))) (Nat.le_of_ble_eq_true rfl) (Nat.le_of_ble_eq_true rfl) rfl hl.1 (Nat.le_of_ble_eq_true rfl) dX11_init_91 ⟨Nat.le_of_ble_eq_true rfl, Nat.le_of_ble_eq_true rfl⟩ rfl (fun H locs hQ hS => ?_)
  rw [x_kl_app (m := 54) rfl, x_hs_app (g := g_11) (by intro j hj k; rcases (show j = 0 ∨ j = 1 ∨ j = 2 ∨ j = 3 ∨ j = 4 by omega) with rfl | rfl | rfl | rfl | rfl <;> simp [g_11, g_3])] at hQ
  have hQ : x_Q2 O (x_kl K (oX O) [(31, 0), (9, 0), (14, 400), (14, 401), (14, 401), (14, 10), (14, 10), (14, 10), (14, 400), (8, 0), (14, 156), (14, 6), (14, 120), (16, 8), (17, 3), (17, 3), (14, 6), (14, 6), (14, 20), (3, 0), (5, 0), (14, 52), (3, 0), (5, 0), (14, 52), (3, 0), (5, 0), (14, 52), (3, 0), (5, 0), (14, 52), (3, 0), (5, 0), (14, 52), (3, 0), (5, 0), (14, 52), (3, 0), (5, 0), (14, 52), (3, 0), (5, 0), (14, 52), (10, 0), (14, 10), (14, 20), (6, 0), (5, 0), (14, 49), (7, 0), (14, 6), (2, 0), (14, 5), (14, 6), (4, 0), (14, 5), (14, 30), (14, 5), (14, 5)]) (x_fu F (oX O) [.ref ((oX O) + 1), .ref ((oX O) + 9), .ref ((oX O) + 43), .ref ((oX O) + 46), .ref ((oX O) + 49), .ref ((oX O) + 51), .null, .null, .null]) (x_hs h (oX O) 59 g_11) H ((oX O) + 59) := hQ
  refine n_put C hQ hS (ci := 11) rfl inT_11 tyX11 tyX11_ok nmX11 6 (by decide) tw_501 (Or.inr ⟨rfl, hn, rfl⟩) rfl rfl (Nat.le_of_ble_eq_true rfl) dX11_init_94 (fun H locs hQ hS => ?_)
  have hQ : x_Q2 O (x_kl K (oX O) [(31, 0), (9, 0), (14, 400), (14, 401), (14, 401), (14, 10), (14, 10), (14, 10), (14, 400), (8, 0), (14, 156), (14, 6), (14, 120), (16, 8), (17, 3), (17, 3), (14, 6), (14, 6), (14, 20), (3, 0), (5, 0), (14, 52), (3, 0), (5, 0), (14, 52), (3, 0), (5, 0), (14, 52), (3, 0), (5, 0), (14, 52), (3, 0), (5, 0), (14, 52), (3, 0), (5, 0), (14, 52), (3, 0), (5, 0), (14, 52), (3, 0), (5, 0), (14, 52), (10, 0), (14, 10), (14, 20), (6, 0), (5, 0), (14, 49), (7, 0), (14, 6), (2, 0), (14, 5), (14, 6), (4, 0), (14, 5), (14, 30), (14, 5), (14, 5)]) (x_fu F (oX O) [.ref ((oX O) + 1), .ref ((oX O) + 9), .ref ((oX O) + 43), .ref ((oX O) + 46), .ref ((oX O) + 49), .ref ((oX O) + 51), .ref ((oX O) + 54), .null, .null]) (x_hs h (oX O) 59 g_11) H ((oX O) + 59) := hQ
  refine lv_aload_n hx hb dX11_init_97 rfl (lv_at hl 0 rfl) ?_
  refine r_new C hQ hS (ci := 0) rfl inT_0 tyX0 tyX0_ok tw_470 tw_471 tw_116 (fs := [.null, .null, .null, .null, .null, .null]) (by decide) (Nat.le_of_ble_eq_true rfl) (Nat.le_of_ble_eq_true rfl) dX11_init_98 (fun H hQ hS => ?_)
  refine lv_dup hx hb dX11_init_101 rfl ?_
  refine lv_aload_n hx hb dX11_init_102 rfl (lv_at hl 0 rfl) ?_
  refine r_get C hQ (a := (oX O)) (ci := 11) (by rw [x_ku_ne (by omega), x_kl_at] <;> rfl) rfl inT_11 1 (by decide) tw_496 (v := .ref ((oX O) + 9)) (by rw [x_fu_ne (by omega), x_fu_at]; rfl) dX11_init_103 ?_
  refine lv_aload_n hx hb dX11_init_106 rfl (lv_at hl 0 rfl) ?_
  refine r_get C hQ (a := (oX O)) (ci := 11) (by rw [x_ku_ne (by omega), x_kl_at] <;> rfl) rfl inT_11 3 (by decide) tw_498 (v := .ref ((oX O) + 46)) (by rw [x_fu_ne (by omega), x_fu_at]; rfl) dX11_init_107 ?_
  refine r_init C hQ hS (S_X0_init (a := (oX O) + 59)) mk_0 (host := "MemoryHouse") (As := [.ref (oX O + 9), .ref (oX O + 46)]) (Or.inl tw_472) (Nat.le_of_ble_eq_true rfl) (Nat.le_of_ble_eq_true rfl) rfl hl.1 (Nat.le_of_ble_eq_true rfl) dX11_init_110 ⟨Nat.le_of_ble_eq_true rfl, Nat.le_of_ble_eq_true rfl⟩ rfl (fun H locs hQ hS => ?_)
  rw [x_kl_app (m := 59) rfl, x_hs_app (g := g_11) (by intro j hj k; rcases (show j = 0 ∨ j = 1 ∨ j = 2 ∨ j = 3 ∨ j = 4 by omega) with rfl | rfl | rfl | rfl | rfl <;> simp [g_11, g_0])] at hQ
  have hQ : x_Q2 O (x_kl K (oX O) [(31, 0), (9, 0), (14, 400), (14, 401), (14, 401), (14, 10), (14, 10), (14, 10), (14, 400), (8, 0), (14, 156), (14, 6), (14, 120), (16, 8), (17, 3), (17, 3), (14, 6), (14, 6), (14, 20), (3, 0), (5, 0), (14, 52), (3, 0), (5, 0), (14, 52), (3, 0), (5, 0), (14, 52), (3, 0), (5, 0), (14, 52), (3, 0), (5, 0), (14, 52), (3, 0), (5, 0), (14, 52), (3, 0), (5, 0), (14, 52), (3, 0), (5, 0), (14, 52), (10, 0), (14, 10), (14, 20), (6, 0), (5, 0), (14, 49), (7, 0), (14, 6), (2, 0), (14, 5), (14, 6), (4, 0), (14, 5), (14, 30), (14, 5), (14, 5), (1, 0), (14, 52), (14, 52), (14, 1560), (14, 3)]) (x_fu F (oX O) [.ref ((oX O) + 1), .ref ((oX O) + 9), .ref ((oX O) + 43), .ref ((oX O) + 46), .ref ((oX O) + 49), .ref ((oX O) + 51), .ref ((oX O) + 54), .null, .null]) (x_hs h (oX O) 64 g_11) H ((oX O) + 64) := hQ
  refine n_put C hQ hS (ci := 11) rfl inT_11 tyX11 tyX11_ok nmX11 7 (by decide) tw_502 (Or.inr ⟨rfl, hn, rfl⟩) rfl rfl (Nat.le_of_ble_eq_true rfl) dX11_init_113 (fun H locs hQ hS => ?_)
  have hQ : x_Q2 O (x_kl K (oX O) [(31, 0), (9, 0), (14, 400), (14, 401), (14, 401), (14, 10), (14, 10), (14, 10), (14, 400), (8, 0), (14, 156), (14, 6), (14, 120), (16, 8), (17, 3), (17, 3), (14, 6), (14, 6), (14, 20), (3, 0), (5, 0), (14, 52), (3, 0), (5, 0), (14, 52), (3, 0), (5, 0), (14, 52), (3, 0), (5, 0), (14, 52), (3, 0), (5, 0), (14, 52), (3, 0), (5, 0), (14, 52), (3, 0), (5, 0), (14, 52), (3, 0), (5, 0), (14, 52), (10, 0), (14, 10), (14, 20), (6, 0), (5, 0), (14, 49), (7, 0), (14, 6), (2, 0), (14, 5), (14, 6), (4, 0), (14, 5), (14, 30), (14, 5), (14, 5), (1, 0), (14, 52), (14, 52), (14, 1560), (14, 3)]) (x_fu F (oX O) [.ref ((oX O) + 1), .ref ((oX O) + 9), .ref ((oX O) + 43), .ref ((oX O) + 46), .ref ((oX O) + 49), .ref ((oX O) + 51), .ref ((oX O) + 54), .ref ((oX O) + 59), .null]) (x_hs h (oX O) 64 g_11) H ((oX O) + 64) := hQ
  refine lv_aload_n hx hb dX11_init_116 rfl (lv_at hl 0 rfl) ?_
  refine lv_null hx hb dX11_init_117 ?_
  refine n_put C hQ hS (ci := 11) rfl inT_11 tyX11 tyX11_ok nmX11 8 (by decide) tw_503 (Or.inl rfl) rfl rfl (Nat.le_of_ble_eq_true rfl) dX11_init_118 (fun H locs hQ hS => ?_)
  have hQ : x_Q2 O (x_kl K (oX O) [(31, 0), (9, 0), (14, 400), (14, 401), (14, 401), (14, 10), (14, 10), (14, 10), (14, 400), (8, 0), (14, 156), (14, 6), (14, 120), (16, 8), (17, 3), (17, 3), (14, 6), (14, 6), (14, 20), (3, 0), (5, 0), (14, 52), (3, 0), (5, 0), (14, 52), (3, 0), (5, 0), (14, 52), (3, 0), (5, 0), (14, 52), (3, 0), (5, 0), (14, 52), (3, 0), (5, 0), (14, 52), (3, 0), (5, 0), (14, 52), (3, 0), (5, 0), (14, 52), (10, 0), (14, 10), (14, 20), (6, 0), (5, 0), (14, 49), (7, 0), (14, 6), (2, 0), (14, 5), (14, 6), (4, 0), (14, 5), (14, 30), (14, 5), (14, 5), (1, 0), (14, 52), (14, 52), (14, 1560), (14, 3)]) (x_fu F (oX O) [.ref ((oX O) + 1), .ref ((oX O) + 9), .ref ((oX O) + 43), .ref ((oX O) + 46), .ref ((oX O) + 49), .ref ((oX O) + 51), .ref ((oX O) + 54), .ref ((oX O) + 59), .null]) (x_hs h (oX O) 64 g_11) H ((oX O) + 64) := hQ
  exact r_vret C (hQ.fin 11 (by decide) (by simp [x_fs, x_hs, va_rf, g_11, show ¬ ((oX O) + 64 ≤ (oX O)) by omega])) hS (Nat.le_of_ble_eq_true rfl) (Nat.le_of_ble_eq_true rfl) dX11_init_121
theorem oi_10 : Cond.methodLink RX10 1 Lib.objectInit ∈ TB := TB_of (tin_3 (List.mem_of_getElem? (i := 177) (by decide +kernel))) rfl
theorem kc_10 : Cond.code yX10_init cX10_init 5 none ∈ TB := TB_of (tin_3 (List.mem_of_getElem? (i := 176) (by decide +kernel))) rfl
theorem ki_10 : Cond.instanceMethod yX10_init ∈ TB := TB_of (tin_3 (List.mem_of_getElem? (i := 175) (by decide +kernel))) rfl
theorem mk_10 : x_MK yX10_init cX10_init 5 4 := ⟨kc_10, ki_10, tw_122, by decide, by decide, by decide +kernel, rfl⟩
theorem S_X10_init {l : Launch} {O : XO} {K : XK} {F : Nat → List Value} {h : XH} {a n : Nat} {ks : List (Nat × Nat)} : x_MI l O yX10_init cX10_init 5 none 1 40 0 0 (x_kl K a ((30, 0) :: ks)) (x_fu F a [.null, .null, .null, .null]) h n [.ref a, .ref (a + 1), .ref (a + 2), .ref (a + 3), .ref (a + 4)] none (x_kl K a ((11, 0) :: ks)) F h n := by
  refine x_enterI (by decide) (Nat.le_of_ble_eq_true rfl) (fun p e s m args below meth c C hn hQ ls hl => ?_)
  have hS : va_S (oA O) s.heap s.heap [] := va_S.rf
  have hx := C.1
  have hb := C.2.1
  have hz0 := hQ.1
  have hl : lv_has ls 5 [(0, .ref a), (1, .ref (a + 1)), (2, .ref (a + 2)), (3, .ref (a + 3)), (4, .ref (a + 4))] := hl
  refine lv_aload_n hx hb dX10_init_0 rfl (lv_at hl 0 rfl) ?_
  refine W.objInit hx hb C.2.2.2.1 (C.2.2.2.2.1 _ oi_10) (C.2.2.2.2.1 _ oi_inst) (C.2.2.2.2.1 _ oi_code) rfl (by rw [C.2.2.1]; exact hl.1) rfl dX10_init_1 (Nat.le_of_ble_eq_true rfl) (Nat.le_of_ble_eq_true rfl) ?_
  refine lv_aload_n hx hb dX10_init_4 rfl (lv_at hl 0 rfl) ?_
  refine lv_aload_n hx hb dX10_init_5 rfl (lv_at hl 1 rfl) ?_
  refine n_put C hQ hS (ci := 10) rfl inT_10 tyX10 tyX10_ok nmX10 0 (by decide) tw_763 (Or.inr ⟨rfl, hn, rfl⟩) rfl rfl (Nat.le_of_ble_eq_true rfl) dX10_init_6 (fun H locs hQ hS => ?_)
  have hQ : x_Q2 O (x_kl K a ((30, 0) :: ks)) (x_fu F a [.ref (a + 1), .null, .null, .null]) h H n := hQ
  refine lv_aload_n hx hb dX10_init_9 rfl (lv_at hl 0 rfl) ?_
  refine lv_aload_n hx hb dX10_init_10 rfl (lv_at hl 2 rfl) ?_
  refine n_put C hQ hS (ci := 10) rfl inT_10 tyX10 tyX10_ok nmX10 1 (by decide) tw_765 (Or.inr ⟨rfl, hn, rfl⟩) rfl rfl (Nat.le_of_ble_eq_true rfl) dX10_init_11 (fun H locs hQ hS => ?_)
  have hQ : x_Q2 O (x_kl K a ((30, 0) :: ks)) (x_fu F a [.ref (a + 1), .ref (a + 2), .null, .null]) h H n := hQ
  refine lv_aload_n hx hb dX10_init_14 rfl (lv_at hl 0 rfl) ?_
  refine lv_aload_n hx hb dX10_init_15 rfl (lv_at hl 3 rfl) ?_
  refine n_put C hQ hS (ci := 10) rfl inT_10 tyX10 tyX10_ok nmX10 2 (by decide) tw_767 (Or.inr ⟨rfl, hn, rfl⟩) rfl rfl (Nat.le_of_ble_eq_true rfl) dX10_init_16 (fun H locs hQ hS => ?_)
  have hQ : x_Q2 O (x_kl K a ((30, 0) :: ks)) (x_fu F a [.ref (a + 1), .ref (a + 2), .ref (a + 3), .null]) h H n := hQ
  refine lv_aload_n hx hb dX10_init_19 rfl (lv_at hl 0 rfl) ?_
  refine lv_aload hx hb dX10_init_20 (lv_at hl 4 rfl) ?_
  refine n_put C hQ hS (ci := 10) rfl inT_10 tyX10 tyX10_ok nmX10 3 (by decide) tw_769 (Or.inr ⟨rfl, hn, rfl⟩) rfl rfl (Nat.le_of_ble_eq_true rfl) dX10_init_22 (fun H locs hQ hS => ?_)
  have hQ : x_Q2 O (x_kl K a ((30, 0) :: ks)) (x_fu F a [.ref (a + 1), .ref (a + 2), .ref (a + 3), .ref (a + 4)]) h H n := hQ
  exact r_vret C (hQ.fin 10 (by decide) rfl) hS (Nat.le_of_ble_eq_true rfl) (Nat.le_of_ble_eq_true rfl) dX10_init_25
